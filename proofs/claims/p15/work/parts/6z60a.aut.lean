section
/-! The text as a number, its tokens, and the reader as an automaton -/
/-- byte j of the text -/
def pz_b (t j : Nat) : Nat := t / 4294967296 ^ j % 4294967296
def pz_bl (c : Nat) : Bool := c == 32 || c == 10
def pz_lt (c : Nat) : Bool := decide (97 ≤ c) && decide (c ≤ 122)
def pz_dg (c : Nat) : Bool := decide (48 ≤ c) && decide (c ≤ 57)
def pz_sg (c : Nat) : Bool := c == 59 || c == 40 || c == 41 || c == 43 || c == 45 || c == 42 || c == 47 || c == 37
/-- where a run ends -/
def pz_run (P : Nat → Bool) (t N : Nat) : Nat → Nat → Nat
  | 0, p => p
  | f + 1, p => if p < N ∧ P (pz_b t p) = true then pz_run P t N f (p + 1) else p
def pz_e (P : Nat → Bool) (t N p : Nat) : Nat := pz_run P t N (N - p) p
theorem pz_e_on {P : Nat → Bool} {t N p : Nat} (h : p < N) (hP : P (pz_b t p) = true) : pz_e P t N p = pz_e P t N (p + 1) := by
  unfold pz_e
  rw [show N - p = (N - (p + 1)) + 1 by omega]
  show (if p < N ∧ P (pz_b t p) = true then pz_run P t N (N - (p + 1)) (p + 1) else p) = _
  rw [if_pos ⟨h, hP⟩]
theorem pz_e_off {P : Nat → Bool} {t N p : Nat} (h : N ≤ p ∨ P (pz_b t p) = false) : pz_e P t N p = p := by
  unfold pz_e
  cases hf : N - p with
  | zero => rfl
  | succ f =>
    show (if p < N ∧ P (pz_b t p) = true then pz_run P t N f (p + 1) else p) = _
    rw [if_neg]
    intro ⟨h1, h2⟩
    rcases h with h | h
    · omega
    · rw [h] at h2; cases h2
theorem pz_run_ge {P : Nat → Bool} {t N : Nat} : ∀ (f p : Nat), p ≤ pz_run P t N f p
  | 0, p => Nat.le_refl p
  | f + 1, p => by
    show p ≤ (if p < N ∧ P (pz_b t p) = true then pz_run P t N f (p + 1) else p)
    by_cases h : p < N ∧ P (pz_b t p) = true
    · rw [if_pos h]; have := pz_run_ge (P := P) (t := t) (N := N) f (p + 1); omega
    · rw [if_neg h]; exact Nat.le_refl p
theorem pz_e_ge {P : Nat → Bool} {t N p : Nat} : p ≤ pz_e P t N p := pz_run_ge _ _
/-- a number, 1000 if it is greater than 999 -/
def pz_m (x : Nat) : Nat := if x ≤ 1000 then x else 1000
def pz_nm (t N : Nat) : Nat → Nat → Nat → Nat
  | 0, _, a => a
  | f + 1, p, a => if p < N ∧ pz_dg (pz_b t p) = true then pz_nm t N f (p + 1) (pz_m (10 * a + (pz_b t p - 48))) else a
def pz_n (t N p a : Nat) : Nat := pz_nm t N (N - p) p a
theorem pz_n_on {t N p a : Nat} (h : p < N) (hP : pz_dg (pz_b t p) = true) : pz_n t N p a = pz_n t N (p + 1) (pz_m (10 * a + (pz_b t p - 48))) := by
  unfold pz_n
  rw [show N - p = (N - (p + 1)) + 1 by omega]
  show (if p < N ∧ pz_dg (pz_b t p) = true then pz_nm t N (N - (p + 1)) (p + 1) (pz_m (10 * a + (pz_b t p - 48))) else a) = _
  rw [if_pos ⟨h, hP⟩]
theorem pz_n_off {t N p a : Nat} (h : N ≤ p ∨ pz_dg (pz_b t p) = false) : pz_n t N p a = a := by
  unfold pz_n
  cases hf : N - p with
  | zero => rfl
  | succ f =>
    show (if p < N ∧ pz_dg (pz_b t p) = true then pz_nm t N f (p + 1) (pz_m (10 * a + (pz_b t p - 48))) else a) = _
    rw [if_neg]
    intro ⟨h1, h2⟩
    rcases h with h | h
    · omega
    · rw [h] at h2; cases h2
/-- the class's number, the reference's number -/
theorem pz_m_class {v d : Nat} (hd : d ≤ 9) : pz_m (if 10 * v + d ≤ 100000 then 10 * v + d else 100000) = pz_m (10 * pz_m v + d) := by
  unfold pz_m
  by_cases h1 : v ≤ 1000
  · rw [if_pos h1]
    by_cases h2 : 10 * v + d ≤ 100000
    · rw [if_pos h2]
    · omega
  · rw [if_neg h1, if_neg (show ¬ 10 * 1000 + d ≤ 1000 by omega)]
    by_cases h2 : 10 * v + d ≤ 100000
    · rw [if_pos h2, if_neg (by omega)]
    · rw [if_neg h2]; rfl
theorem pz_m_ref {v d : Nat} (hd : d ≤ 9) : pz_m (if 999 < v then v else 10 * v + d) = pz_m (10 * pz_m v + d) := by
  unfold pz_m
  by_cases h1 : v ≤ 1000
  · rw [if_pos h1]
    by_cases h2 : 999 < v
    · rw [if_pos h2, if_neg (show ¬ 10 * v + d ≤ 1000 by omega)]
      have : v = 1000 := by omega
      rw [this]; rfl
    · rw [if_neg h2]
  · rw [if_neg h1, if_pos (show 999 < v by omega), if_neg h1, if_neg (show ¬ 10 * 1000 + d ≤ 1000 by omega)]
/-- the token at p: where it stands -/
def pz_at (t N p : Nat) : Nat := pz_e pz_bl t N p
/-- its kind: 0 the end, 1 a word, 2 a number, 3 none, a sign: its byte -/
def pz_kd (t N p : Nat) : Nat := if N ≤ pz_at t N p then 0 else if pz_lt (pz_b t (pz_at t N p)) then 1 else if pz_dg (pz_b t (pz_at t N p)) then 2 else if pz_sg (pz_b t (pz_at t N p)) then pz_b t (pz_at t N p) else 3
/-- where the next one may begin -/
def pz_nx (t N p : Nat) : Nat := if N ≤ pz_at t N p then pz_at t N p else if pz_lt (pz_b t (pz_at t N p)) then pz_e pz_lt t N (pz_at t N p) else if pz_dg (pz_b t (pz_at t N p)) then pz_e pz_dg t N (pz_at t N p) else pz_at t N p + 1
def pz_vl (t N p : Nat) : Nat := pz_n t N (pz_at t N p) 0
def pz_ws : List (List Nat) := [[115, 119, 105, 116, 99, 104, 101, 115], [108, 105, 110, 107], [114, 111, 111, 116], [114, 111, 111, 109], [114, 97, 110, 107], [102, 97, 114], [110, 117, 109, 98, 101, 114], [108, 105, 110, 107, 115]]
/-- it is the word w -/
def pz_is (t N p : Nat) (w : List Nat) : Bool := pz_kd t N p == 1 && (pz_nx t N p - pz_at t N p == w.length && (List.range w.length).all (fun i => pz_b t (pz_at t N p + i) == w.getD i 0))
def pz_wd (t N p k : Nat) : Bool := pz_is t N p (pz_ws.getD k [])
/-- a configuration: mode, place, nodes, links, what was told (root, room, rank), units, stack, the link's first end, root, room; mode 20: accepted, 21: a fault (its kind in units, its place in nodes) -/
abbrev pz_C : Type := Nat × Nat × Nat × List (Nat × Nat) × (Bool × Bool × Bool) × Nat × Nat × Nat × Nat × Nat
def pz_fl (k a : Nat) : pz_C := (21, 0, a, [], (false, false, false), k, 0, 0, 0, 0)
/-- minuses on top go -/
def pz_str : Nat → Nat → Nat
  | 0, s => s
  | f + 1, s => if s % 2 = 1 ∧ 1 < s then pz_str f (s / 2) else s
def pz_strip (s : Nat) : Nat := pz_str s s
def pz_dep : Nat → Nat → Nat
  | 0, _ => 0
  | f + 1, s => if 1 < s then pz_dep f (s / 2) + 1 else 0
/-- how deep -/
def pz_dp (s : Nat) : Nat := pz_dep s s
def pz_jn (ls : List (Nat × Nat)) (a b : Nat) : Bool := ls.any (fun x => (x.1 == a && x.2 == b) || (x.1 == b && x.2 == a))
def pz_op (k : Nat) : Bool := k == 43 || k == 45 || k == 42 || k == 47 || k == 37
/-- one token -/
def pz_st (t N : Nat) (c : pz_C) : pz_C :=
  let (md, p, no, ls, (r, m, k), un, s, o, ro, rm) := c
  let a := pz_at t N p; let kd := pz_kd t N p; let nx := pz_nx t N p; let v := pz_vl t N p
  if md = 0 then (if kd = 0 then (20, p, no, ls, (r, m, k), un, s, o, ro, rm) else if pz_wd t N p 0 then (1, nx, no, ls, (r, m, k), un, s, o, ro, rm) else pz_fl 1 a)
  else if md = 1 then (if kd ≠ 2 then pz_fl 1 a else if v < 2 ∨ 10 < v then pz_fl 2 a else (2, nx, v, ls, (r, m, k), un, s, o, ro, rm))
  else if md = 2 then (if kd ≠ 59 then pz_fl 1 a else (3, nx, no, ls, (r, m, k), un, s, o, ro, rm))
  else if md = 3 then (if kd = 0 then (20, p, no, ls, (r, m, k), un, s, o, ro, rm) else if pz_wd t N p 1 then (if ls.length = 20 then pz_fl 4 a else (4, nx, no, ls, (r, m, k), un, s, o, ro, rm))
    else if pz_wd t N p 2 = true ∧ r = false then (6, nx, no, ls, (true, m, k), un, s, o, ro, rm) else if pz_wd t N p 3 = true ∧ m = false then (7, nx, no, ls, (r, true, k), un, s, o, ro, rm) else if pz_wd t N p 4 = true ∧ k = false then (8, nx, no, ls, (r, m, true), un, 1, o, ro, rm) else pz_fl 1 a)
  else if md = 4 then (if kd ≠ 2 then pz_fl 1 a else if no ≤ v then pz_fl 2 a else (5, nx, no, ls, (r, m, k), un, s, v, ro, rm))
  else if md = 5 then (if kd ≠ 2 then pz_fl 1 a else if no ≤ v ∨ v = o then pz_fl 2 a else if pz_jn ls o v then pz_fl 3 a else (2, nx, no, ls ++ [(o, v)], (r, m, k), un, s, o, ro, rm))
  else if md = 6 then (if kd ≠ 2 then pz_fl 1 a else if no ≤ v then pz_fl 2 a else (2, nx, no, ls, (r, m, k), un, s, o, v, rm))
  else if md = 7 then (if kd ≠ 2 then pz_fl 1 a else if v < 1 ∨ 3 < v then pz_fl 2 a else (2, nx, no, ls, (r, m, k), un, s, o, ro, v))
  else if md = 8 then (if ¬ (kd = 2 ∨ kd = 40 ∨ kd = 45 ∨ pz_wd t N p 5 = true ∨ pz_wd t N p 6 = true ∨ pz_wd t N p 7 = true) then pz_fl 1 a else if kd = 2 ∧ 999 < v then pz_fl 2 a else if un = 40 ∨ 5 < pz_dp s then pz_fl 4 a
    else if kd = 40 then (8, nx, no, ls, (r, m, k), un + 1, 2 * s, o, ro, rm) else if kd = 45 then (8, nx, no, ls, (r, m, k), un + 1, 2 * s + 1, o, ro, rm) else (9, nx, no, ls, (r, m, k), un + 1, pz_strip s, o, ro, rm))
  else if md = 9 then (if kd = 41 ∧ 1 < s then (9, nx, no, ls, (r, m, k), un, pz_strip (s / 2), o, ro, rm) else if pz_op kd then (8, nx, no, ls, (r, m, k), un, s, o, ro, rm) else if 1 < s then pz_fl 1 a else if kd ≠ 59 then pz_fl 1 a else (3, nx, no, ls, (r, m, k), un, s, o, ro, rm))
  else c
def pz_c0 : pz_C := (0, 0, 0, [], (false, false, false), 0, 1, 0, 0, 1)
def pz_cf (t N : Nat) : Nat → pz_C
  | 0 => pz_c0
  | n + 1 => pz_st t N (pz_cf t N n)
theorem pz_fin {t N n : Nat} (h : (pz_cf t N n).1 = 20 ∨ (pz_cf t N n).1 = 21) : ∀ k, pz_cf t N (n + k) = pz_cf t N n
  | 0 => rfl
  | k + 1 => by
    show pz_st t N (pz_cf t N (n + k)) = _
    rw [pz_fin h k]
    generalize pz_cf t N n = c at h
    obtain ⟨md, p, no, ls, ⟨r, m, kk⟩, un, s, o, ro, rm⟩ := c
    replace h : md = 20 ∨ md = 21 := h
    unfold pz_st
    rcases h with rfl | rfl <;> rfl
/-- the end is one -/
theorem pz_one {t N n m : Nat} (h : (pz_cf t N n).1 = 20 ∨ (pz_cf t N n).1 = 21) (h' : (pz_cf t N m).1 = 20 ∨ (pz_cf t N m).1 = 21) : pz_cf t N n = pz_cf t N m := by
  rcases Nat.le_total n m with hl | hl
  · obtain ⟨k, rfl⟩ := Nat.le.dest hl
    exact (pz_fin h k).symm
  · obtain ⟨k, rfl⟩ := Nat.le.dest hl
    exact pz_fin h' k

/-! What is named, on numbers; one step each -/
def pz_md (c : pz_C) : Nat := c.1
def pz_p (c : pz_C) : Nat := c.2.1
def pz_no (c : pz_C) : Nat := c.2.2.1
def pz_ls (c : pz_C) : List (Nat × Nat) := c.2.2.2.1
def pz_fr (c : pz_C) : Bool := c.2.2.2.2.1.1
def pz_fm (c : pz_C) : Bool := c.2.2.2.2.1.2.1
def pz_fk (c : pz_C) : Bool := c.2.2.2.2.1.2.2
def pz_un (c : pz_C) : Nat := c.2.2.2.2.2.1
def pz_s (c : pz_C) : Nat := c.2.2.2.2.2.2.1
def pz_o (c : pz_C) : Nat := c.2.2.2.2.2.2.2.1
def pz_ro (c : pz_C) : Nat := c.2.2.2.2.2.2.2.2.1
def pz_rm (c : pz_C) : Nat := c.2.2.2.2.2.2.2.2.2
def pz_B (b : Bool) : Nat := if b then 1 else 0
/-- the links laid -/
def pz_lk (ls : List (Nat × Nat)) (be fi : Nat → Option Nat) : Prop := ∀ l a b, ls[l]? = some (a, b) → be (2 * l) = some (4 * a) ∧ fi (2 * l) = some (4 * b) ∧ be (2 * l + 1) = some (4 * b) ∧ fi (2 * l + 1) = some (4 * a)
def pz_dt (c : pz_C) (sw ln ro rm un rt rom rk fa fp : Nat) (be fi : Nat → Option Nat) : Prop :=
  sw = pz_no c ∧ ln = (pz_ls c).length ∧ ro = pz_ro c ∧ rm = pz_rm c ∧ un = pz_un c ∧ rt = pz_B (pz_fr c) ∧ rom = pz_B (pz_fm c) ∧ rk = pz_B (pz_fk c) ∧ fa = 0 ∧ fp = 4294967295 ∧ pz_lk (pz_ls c) be fi
theorem pz_cf_s {t N n : Nat} : pz_cf t N (n + 1) = pz_st t N (pz_cf t N n) := rfl
section PKN
variable {t N n AH PL KD VL sw ln ro rm un rt rom rk fa fp : Nat} {be fi : Nat → Option Nat}
def pz53 (t N n AH sw ln ro rm un rt rom rk fa fp : Nat) (be fi : Nat → Option Nat) : Prop := AH = pz_p (pz_cf t N n) ∧ pz_dt (pz_cf t N n) sw ln ro rm un rt rom rk fa fp be fi
def pz50 (t N n AH PL KD VL sw ln ro rm un rt rom rk fa fp : Nat) (be fi : Nat → Option Nat) : Prop :=
  AH = pz_nx t N (pz_p (pz_cf t N n)) ∧ PL = pz_at t N (pz_p (pz_cf t N n)) ∧ KD = pz_kd t N (pz_p (pz_cf t N n)) ∧ (KD = 2 → pz_m VL = pz_vl t N (pz_p (pz_cf t N n))) ∧ pz_dt (pz_cf t N n) sw ln ro rm un rt rom rk fa fp be fi
def pz64 (t N n k : Nat) : Prop := pz_cf t N (n + 1) = pz_fl k (pz_at t N (pz_p (pz_cf t N n)))
def pz60 (t N n k : Nat) : Prop := pz_wd t N (pz_p (pz_cf t N n)) k = true
def pz61 (t N n k : Nat) : Prop := pz_wd t N (pz_p (pz_cf t N n)) k = false
def pz7 (t N n m : Nat) : Prop := pz_md (pz_cf t N n) = m
def pz66 (t N n v : Nat) : Prop := pz_kd t N (pz_p (pz_cf t N n)) = 2 ∧ pz_vl t N (pz_p (pz_cf t N n)) = v
def pz104 (t N n v : Nat) : Prop := pz66 t N n v ∧ v < pz_no (pz_cf t N n)
def pz90 (t N n s : Nat) : Prop := pz_s (pz_cf t N n) = s
def pz67 (t N n a : Nat) : Prop := pz_o (pz_cf t N n) = a
def pz94 (t N n : Nat) : Prop := pz_op (pz_kd t N (pz_p (pz_cf t N n))) = false
def pz95 (t N n : Nat) : Prop := pz_kd t N (pz_p (pz_cf t N n)) ≠ 42 ∧ pz_kd t N (pz_p (pz_cf t N n)) ≠ 47 ∧ pz_kd t N (pz_p (pz_cf t N n)) ≠ 37
def pz111 (t N n : Nat) : Prop := pz_kd t N (pz_p (pz_cf t N n)) ≠ 0
def pz106 (t N n op : Nat) : Prop := (op = 1 ∧ pz_kd t N (pz_p (pz_cf t N n)) = 2) ∨ (op = 40 ∧ pz_kd t N (pz_p (pz_cf t N n)) = 40) ∨ (op = 5 ∧ pz_kd t N (pz_p (pz_cf t N n)) = 45)
  ∨ (pz_kd t N (pz_p (pz_cf t N n)) = 1 ∧ ((op = 2 ∧ pz60 t N n 5) ∨ (op = 3 ∧ pz60 t N n 6) ∨ (op = 4 ∧ pz60 t N n 7))) ∨ (op = 0 ∧ pz_kd t N (pz_p (pz_cf t N n)) ≠ 2 ∧ pz_kd t N (pz_p (pz_cf t N n)) ≠ 40 ∧ pz_kd t N (pz_p (pz_cf t N n)) ≠ 45 ∧ pz61 t N n 5 ∧ pz61 t N n 6 ∧ pz61 t N n 7)
def pz107 (t N n op : Nat) : Prop := pz106 t N n op ∧ op ≠ 0 ∧ (op = 1 → pz_vl t N (pz_p (pz_cf t N n)) ≤ 999)
def pz110 (t N sw ln ro rm un rt rom rk fa fp : Nat) (be fi : Nat → Option Nat) : Prop := ∃ n, pz7 t N n 20 ∧ pz_dt (pz_cf t N n) sw ln ro rm un rt rom rk fa fp be fi
def pz63 (t N fa fp : Nat) : Prop := ∃ n, pz_cf t N n = pz_fl fa fp
def pz113 (t N n a b : Nat) : Prop := pz_jn (pz_ls (pz_cf t N n)) a b = false
def pz112 (t N n a b : Nat) : Prop := pz_jn (pz_ls (pz_cf t N n)) a b = true
/-- a word is of kind 1 -/
theorem pz_wd1 {p k : Nat} (h : pz_wd t N p k = true) : pz_kd t N p = 1 := by
  unfold pz_wd pz_is at h
  exact eq_of_beq (Bool.and_eq_true_iff.mp h).1
/-- one word is not another -/
theorem pz_wdx {p j k i : Nat} (hj : i < (pz_ws.getD j []).length) (hk : i < (pz_ws.getD k []).length) (hd : (pz_ws.getD j []).getD i 0 ≠ (pz_ws.getD k []).getD i 0) (h1 : pz_wd t N p j = true) (h2 : pz_wd t N p k = true) : False := by
  unfold pz_wd pz_is at h1 h2
  have a1 := List.all_eq_true.mp (Bool.and_eq_true_iff.mp (Bool.and_eq_true_iff.mp h1).2).2 i (List.mem_range.mpr hj)
  have a2 := List.all_eq_true.mp (Bool.and_eq_true_iff.mp (Bool.and_eq_true_iff.mp h2).2).2 i (List.mem_range.mpr hk)
  exact hd ((eq_of_beq a1).symm.trans (eq_of_beq a2))
theorem pq_fl2 {k : Nat} (h : pz64 t N n k) : pz63 t N k (pz_at t N (pz_p (pz_cf t N n))) := ⟨n + 1, h⟩
theorem pq_rn1 {M : Nat} (hM : M = 1 ∨ M = 4 ∨ M = 5 ∨ M = 6 ∨ M = 7) (hm : pz7 t N n M) (hk : pz_kd t N (pz_p (pz_cf t N n)) ≠ 2) : pz64 t N n 1 := by
  unfold pz64 pz7 at *
  rw [pz_cf_s]
  generalize pz_cf t N n = c at *
  obtain ⟨md, p, no, ls, ⟨r, m, k⟩, u, s, o, a, b⟩ := c
  simp only [pz_md, pz_p, pz_no, pz_ls, pz_fr, pz_fm, pz_fk, pz_un, pz_s, pz_o, pz_ro, pz_rm] at *
  rcases hM with rfl | rfl | rfl | rfl | rfl <;> subst hm <;> simp [pz_st, hk]
theorem pq_rn2 {M : Nat} (hM : M = 4 ∨ M = 5 ∨ M = 6) (hm : pz7 t N n M) (hk : pz_kd t N (pz_p (pz_cf t N n)) = 2) (hv : pz_no (pz_cf t N n) ≤ pz_vl t N (pz_p (pz_cf t N n))) : pz64 t N n 2 := by
  unfold pz64 pz7 at *
  rw [pz_cf_s]
  generalize pz_cf t N n = c at *
  obtain ⟨md, p, no, ls, ⟨r, m, k⟩, u, s, o, a, b⟩ := c
  simp only [pz_md, pz_p, pz_no, pz_ls, pz_fr, pz_fm, pz_fk, pz_un, pz_s, pz_o, pz_ro, pz_rm] at *
  rcases hM with rfl | rfl | rfl <;> subst hm <;> simp [pz_st, hk, hv]
theorem pq_rn31 (hm : pz7 t N n 1) (hk : pz_kd t N (pz_p (pz_cf t N n)) = 2) (hv : pz_vl t N (pz_p (pz_cf t N n)) < 2 ∨ 10 < pz_vl t N (pz_p (pz_cf t N n))) : pz64 t N n 2 := by
  unfold pz64 pz7 at *
  rw [pz_cf_s]
  generalize pz_cf t N n = c at *
  obtain ⟨md, p, no, ls, ⟨r, m, k⟩, u, s, o, a, b⟩ := c
  simp only [pz_md, pz_p, pz_no, pz_ls, pz_fr, pz_fm, pz_fk, pz_un, pz_s, pz_o, pz_ro, pz_rm] at *
  subst hm
  simp [pz_st, hk, hv]
theorem pq_rn37 (hm : pz7 t N n 7) (hk : pz_kd t N (pz_p (pz_cf t N n)) = 2) (hv : pz_vl t N (pz_p (pz_cf t N n)) < 1 ∨ 3 < pz_vl t N (pz_p (pz_cf t N n))) : pz64 t N n 2 := by
  unfold pz64 pz7 at *
  rw [pz_cf_s]
  generalize pz_cf t N n = c at *
  obtain ⟨md, p, no, ls, ⟨r, m, k⟩, u, s, o, a, b⟩ := c
  simp only [pz_md, pz_p, pz_no, pz_ls, pz_fr, pz_fm, pz_fk, pz_un, pz_s, pz_o, pz_ro, pz_rm] at *
  subst hm
  simp [pz_st, hk]
  intro h0 h3
  exfalso
  omega
theorem pq_rs1 (hm : pz7 t N n 2) (hk : pz_kd t N (pz_p (pz_cf t N n)) ≠ 59) : pz64 t N n 1 := by
  unfold pz64 pz7 at *
  rw [pz_cf_s]
  generalize pz_cf t N n = c at *
  obtain ⟨md, p, no, ls, ⟨r, m, k⟩, u, s, o, a, b⟩ := c
  simp only [pz_md, pz_p, pz_no, pz_ls, pz_fr, pz_fm, pz_fk, pz_un, pz_s, pz_o, pz_ro, pz_rm] at *
  subst hm
  simp [pz_st, hk]
theorem pq_rs2 (hm : pz7 t N n 9) (hs : pz90 t N n 1) (ho : pz94 t N n) (hk : pz_kd t N (pz_p (pz_cf t N n)) ≠ 59) : pz64 t N n 1 := by
  unfold pz64 pz7 pz90 pz94 at *
  rw [pz_cf_s]
  generalize pz_cf t N n = c at *
  obtain ⟨md, p, no, ls, ⟨r, m, k⟩, u, s, o, a, b⟩ := c
  simp only [pz_md, pz_p, pz_no, pz_ls, pz_fr, pz_fm, pz_fk, pz_un, pz_s, pz_o, pz_ro, pz_rm] at *
  subst hm hs
  simp [pz_st, hk, ho]
theorem pq_rs3 {S s0 : Nat} (hm : pz7 t N n 9) (hs : pz90 t N n S) (h2 : S = 2 * s0) (h0 : 1 ≤ s0) (ho : pz94 t N n) (hk : pz_kd t N (pz_p (pz_cf t N n)) ≠ 41) : pz64 t N n 1 := by
  unfold pz64 pz7 pz90 pz94 at *
  rw [pz_cf_s]
  generalize pz_cf t N n = c at *
  obtain ⟨md, p, no, ls, ⟨r, m, k⟩, u, s, o, a, b⟩ := c
  simp only [pz_md, pz_p, pz_no, pz_ls, pz_fr, pz_fm, pz_fk, pz_un, pz_s, pz_o, pz_ro, pz_rm] at *
  subst hm hs
  have : 1 < s := by omega
  simp [pz_st, hk, ho, this]
theorem pq_rs4 (h : pz50 t N n AH PL KD VL sw ln ro rm un rt rom rk fa fp be fi) (hm : pz7 t N n 2) (hk : KD = 59) : pz53 t N (n + 1) AH sw ln ro rm un rt rom rk fa fp be fi ∧ pz7 t N (n + 1) 3 := by
  unfold pz50 pz53 pz7 pz_dt at *
  rw [pz_cf_s]
  generalize pz_cf t N n = c at *
  obtain ⟨md, p, no, ls, ⟨r, m, k⟩, u, s, o, a, b⟩ := c
  simp only [pz_md, pz_p, pz_no, pz_ls, pz_fr, pz_fm, pz_fk, pz_un, pz_s, pz_o, pz_ro, pz_rm] at *
  subst hm
  obtain ⟨h1, h2, h3, h4, h5⟩ := h
  have h3' : pz_kd t N p = 59 := by omega
  simp [pz_st, h3', h1]
  exact h5
theorem pq_rs5 (h : pz50 t N n AH PL KD VL sw ln ro rm un rt rom rk fa fp be fi) (hm : pz7 t N n 9) (hs : pz90 t N n 1) (hk : KD = 59) : pz53 t N (n + 1) AH sw ln ro rm un rt rom rk fa fp be fi ∧ pz7 t N (n + 1) 3 := by
  unfold pz50 pz53 pz7 pz90 pz_dt at *
  rw [pz_cf_s]
  generalize pz_cf t N n = c at *
  obtain ⟨md, p, no, ls, ⟨r, m, k⟩, u, s, o, a, b⟩ := c
  simp only [pz_md, pz_p, pz_no, pz_ls, pz_fr, pz_fm, pz_fk, pz_un, pz_s, pz_o, pz_ro, pz_rm] at *
  subst hm hs
  obtain ⟨h1, h2, h3, h4, h5⟩ := h
  have h3' : pz_kd t N p = 59 := by omega
  simp [pz_st, h3', h1, pz_op]
  exact h5
theorem pq_rs6 (h : pz50 t N n AH PL KD VL sw ln ro rm un rt rom rk fa fp be fi) {S s0 : Nat} (hm : pz7 t N n 9) (hs : pz90 t N n S) (hS : S = 2 * s0) (h0 : 1 ≤ s0) (hk : KD = 41) : pz53 t N (n + 1) AH sw ln ro rm un rt rom rk fa fp be fi ∧ pz7 t N (n + 1) 9 ∧ pz90 t N (n + 1) (pz_strip s0) := by
  unfold pz50 pz53 pz7 pz90 pz_dt at *
  rw [pz_cf_s]
  generalize pz_cf t N n = c at *
  obtain ⟨md, p, no, ls, ⟨r, m, k⟩, u, s, o, a, b⟩ := c
  simp only [pz_md, pz_p, pz_no, pz_ls, pz_fr, pz_fm, pz_fk, pz_un, pz_s, pz_o, pz_ro, pz_rm] at *
  obtain ⟨h1, h2, h3, h4, e1, e2, e3, e4, e5, e6, e7, e8, e9, e10, e11⟩ := h
  subst hm hs
  have g1 : pz_kd t N p = 41 := by omega
  have g2 : 1 < s := by omega
  have g3 : s / 2 = s0 := by omega
  simp [pz_st, g1, g2, g3, h1, e1, e2, e3, e4, e5, e6, e7, e8, e9, e10]
  exact e11
theorem pq_ru1 (hm : pz7 t N n 8) (hu : pz106 t N n 0) : pz64 t N n 1 := by
  unfold pz64 pz7 pz106 pz60 pz61 at *
  rw [pz_cf_s]
  generalize pz_cf t N n = c at *
  obtain ⟨md, p, no, ls, ⟨r, m, k⟩, u, s, o, a, b⟩ := c
  simp only [pz_md, pz_p, pz_no, pz_ls, pz_fr, pz_fm, pz_fk, pz_un, pz_s, pz_o, pz_ro, pz_rm] at *
  subst hm
  simp at hu
  obtain ⟨a1, a2, a3, a4, a5, a6⟩ := hu
  simp [pz_st, a1, a2, a3, a4, a5, a6]
theorem pq_ru2 (hm : pz7 t N n 8) (hu : pz106 t N n 1) (hv : 999 < pz_vl t N (pz_p (pz_cf t N n))) : pz64 t N n 2 := by
  unfold pz64 pz7 pz106 pz60 pz61 at *
  rw [pz_cf_s]
  generalize pz_cf t N n = c at *
  obtain ⟨md, p, no, ls, ⟨r, m, k⟩, u, s, o, a, b⟩ := c
  simp only [pz_md, pz_p, pz_no, pz_ls, pz_fr, pz_fm, pz_fk, pz_un, pz_s, pz_o, pz_ro, pz_rm] at *
  subst hm
  simp at hu
  simp [pz_st, hu, hv]
theorem pz_okU {c : pz_C} {op : Nat} (hm : pz_md c = 8) (hu : (op = 1 ∧ pz_kd t N (pz_p c) = 2) ∨ (op = 40 ∧ pz_kd t N (pz_p c) = 40) ∨ (op = 5 ∧ pz_kd t N (pz_p c) = 45) ∨ (pz_kd t N (pz_p c) = 1 ∧ ((op = 2 ∧ pz_wd t N (pz_p c) 5 = true) ∨ (op = 3 ∧ pz_wd t N (pz_p c) 6 = true) ∨ (op = 4 ∧ pz_wd t N (pz_p c) 7 = true)))) (hv : op = 1 → pz_vl t N (pz_p c) ≤ 999) :
    pz_st t N c = if pz_un c = 40 ∨ 5 < pz_dp (pz_s c) then pz_fl 4 (pz_at t N (pz_p c)) else if op = 40 then (8, pz_nx t N (pz_p c), pz_no c, pz_ls c, (pz_fr c, pz_fm c, pz_fk c), pz_un c + 1, 2 * pz_s c, pz_o c, pz_ro c, pz_rm c)
      else if op = 5 then (8, pz_nx t N (pz_p c), pz_no c, pz_ls c, (pz_fr c, pz_fm c, pz_fk c), pz_un c + 1, 2 * pz_s c + 1, pz_o c, pz_ro c, pz_rm c) else (9, pz_nx t N (pz_p c), pz_no c, pz_ls c, (pz_fr c, pz_fm c, pz_fk c), pz_un c + 1, pz_strip (pz_s c), pz_o c, pz_ro c, pz_rm c) := by
  obtain ⟨md, p, no, ls, ⟨r, m, k⟩, u, s, o, a, b⟩ := c
  simp only [pz_md, pz_p, pz_no, pz_ls, pz_fr, pz_fm, pz_fk, pz_un, pz_s, pz_o, pz_ro, pz_rm] at *
  subst hm
  rcases hu with ⟨rfl, g⟩ | ⟨rfl, g⟩ | ⟨rfl, g⟩ | ⟨g, ⟨rfl, g2⟩ | ⟨rfl, g2⟩ | ⟨rfl, g2⟩⟩
  · have hv := hv rfl
    have : ¬ 999 < pz_vl t N p := by omega
    simp [pz_st, g, this]
  · simp [pz_st, g]
  · simp [pz_st, g]
  · simp [pz_st, g, g2]
  · simp [pz_st, g, g2]
  · simp [pz_st, g, g2]
theorem pz_107 {op : Nat} (hm : pz7 t N n 8) (hu : pz107 t N n op) : pz_cf t N (n + 1) = if pz_un (pz_cf t N n) = 40 ∨ 5 < pz_dp (pz_s (pz_cf t N n)) then pz_fl 4 (pz_at t N (pz_p (pz_cf t N n))) else if op = 40 then (8, pz_nx t N (pz_p (pz_cf t N n)), pz_no (pz_cf t N n), pz_ls (pz_cf t N n), (pz_fr (pz_cf t N n), pz_fm (pz_cf t N n), pz_fk (pz_cf t N n)), pz_un (pz_cf t N n) + 1, 2 * pz_s (pz_cf t N n), pz_o (pz_cf t N n), pz_ro (pz_cf t N n), pz_rm (pz_cf t N n))
      else if op = 5 then (8, pz_nx t N (pz_p (pz_cf t N n)), pz_no (pz_cf t N n), pz_ls (pz_cf t N n), (pz_fr (pz_cf t N n), pz_fm (pz_cf t N n), pz_fk (pz_cf t N n)), pz_un (pz_cf t N n) + 1, 2 * pz_s (pz_cf t N n) + 1, pz_o (pz_cf t N n), pz_ro (pz_cf t N n), pz_rm (pz_cf t N n)) else (9, pz_nx t N (pz_p (pz_cf t N n)), pz_no (pz_cf t N n), pz_ls (pz_cf t N n), (pz_fr (pz_cf t N n), pz_fm (pz_cf t N n), pz_fk (pz_cf t N n)), pz_un (pz_cf t N n) + 1, pz_strip (pz_s (pz_cf t N n)), pz_o (pz_cf t N n), pz_ro (pz_cf t N n), pz_rm (pz_cf t N n)) := by
  obtain ⟨h1, h2, h3⟩ := hu
  refine pz_okU hm ?_ h3
  rcases h1 with h | h | h | h | h
  · exact Or.inl h
  · exact Or.inr (Or.inl h)
  · exact Or.inr (Or.inr (Or.inl h))
  · exact Or.inr (Or.inr (Or.inr h))
  · exact absurd h.1 h2
theorem pq_ru4 {op : Nat} (h : pz50 t N n AH PL KD VL sw ln ro rm un rt rom rk fa fp be fi) (hm : pz7 t N n 8) (hu : pz107 t N n op) (h40 : un = 40) : pz64 t N n 4 := by
  unfold pz64
  rw [pz_107 hm hu, if_pos (Or.inl (by have := h.2.2.2.2.2.2.2.2.1; omega))]
theorem pq_ru5 {op S : Nat} (hm : pz7 t N n 8) (hu : pz107 t N n op) (hs : pz90 t N n S) (hd : pz_dp S = 6) : pz64 t N n 4 := by
  unfold pz64 pz90 at *
  subst hs
  rw [pz_107 hm hu, if_pos (Or.inr (by omega))]
theorem pq_ru6u {op : Nat} (h : pz50 t N n AH PL KD VL sw ln ro rm un rt rom rk fa fp be fi) (hm : pz7 t N n 8) (hu : pz107 t N n op) (h5 : op ≠ 5) (h40 : op ≠ 40) {S : Nat} (hs : pz90 t N n S) (hd : pz_dp S ≤ 5) (hun : un ≤ 39) : pz53 t N (n + 1) AH sw ln ro rm (un + 1) rt rom rk fa fp be fi ∧ pz7 t N (n + 1) 9 ∧ pz90 t N (n + 1) (pz_strip S) := by
  have e := pz_107 hm hu
  unfold pz50 pz53 pz7 pz90 pz_dt at *
  subst hs
  obtain ⟨h1, h2, h3, h4, e1, e2, e3, e4, e5, e6, e7, e8, e9, e10, e11⟩ := h
  rw [if_neg (by rintro (g | g) <;> omega), if_neg h40, if_neg h5] at e
  rw [e]
  exact ⟨⟨h1, e1, e2, e3, e4, by show un + 1 = pz_un (pz_cf t N n) + 1; omega, e6, e7, e8, e9, e10, e11⟩, rfl, rfl⟩
theorem pq_ru6o (h : pz50 t N n AH PL KD VL sw ln ro rm un rt rom rk fa fp be fi) (hm : pz7 t N n 8) (hu : pz107 t N n 40)  {S : Nat} (hs : pz90 t N n S) (hd : pz_dp S ≤ 5) (hun : un ≤ 39) : pz53 t N (n + 1) AH sw ln ro rm (un + 1) rt rom rk fa fp be fi ∧ pz7 t N (n + 1) 8 ∧ pz90 t N (n + 1) (2 * S) := by
  have e := pz_107 hm hu
  unfold pz50 pz53 pz7 pz90 pz_dt at *
  subst hs
  obtain ⟨h1, h2, h3, h4, e1, e2, e3, e4, e5, e6, e7, e8, e9, e10, e11⟩ := h
  rw [if_neg (by rintro (g | g) <;> omega), if_pos rfl] at e
  rw [e]
  exact ⟨⟨h1, e1, e2, e3, e4, by show un + 1 = pz_un (pz_cf t N n) + 1; omega, e6, e7, e8, e9, e10, e11⟩, rfl, rfl⟩
theorem pq_ru6m (h : pz50 t N n AH PL KD VL sw ln ro rm un rt rom rk fa fp be fi) (hm : pz7 t N n 8) (hu : pz107 t N n 5)  {S : Nat} (hs : pz90 t N n S) (hd : pz_dp S ≤ 5) (hun : un ≤ 39) : pz53 t N (n + 1) AH sw ln ro rm (un + 1) rt rom rk fa fp be fi ∧ pz7 t N (n + 1) 8 ∧ pz90 t N (n + 1) (2 * S + 1) := by
  have e := pz_107 hm hu
  unfold pz50 pz53 pz7 pz90 pz_dt at *
  subst hs
  obtain ⟨h1, h2, h3, h4, e1, e2, e3, e4, e5, e6, e7, e8, e9, e10, e11⟩ := h
  rw [if_neg (by rintro (g | g) <;> omega), if_neg (by decide), if_pos rfl] at e
  rw [e]
  exact ⟨⟨h1, e1, e2, e3, e4, by show un + 1 = pz_un (pz_cf t N n) + 1; omega, e6, e7, e8, e9, e10, e11⟩, rfl, rfl⟩
theorem pz_str_ge : ∀ {f s g : Nat}, s ≤ f → s ≤ g → pz_str f s = pz_str g s
  | 0, s, g, h1, h2 => by
    have : s = 0 := by omega
    subst this
    cases g with
    | zero => rfl
    | succ g => show _ = (if 0 % 2 = 1 ∧ 1 < 0 then _ else 0); rw [if_neg (by omega)]; rfl
  | f + 1, s, 0, h1, h2 => by
    have : s = 0 := by omega
    subst this
    show (if 0 % 2 = 1 ∧ 1 < 0 then _ else 0) = _
    rw [if_neg (by omega)]
    rfl
  | f + 1, s, g + 1, h1, h2 => by
    show (if s % 2 = 1 ∧ 1 < s then pz_str f (s / 2) else s) = (if s % 2 = 1 ∧ 1 < s then pz_str g (s / 2) else s)
    by_cases h : s % 2 = 1 ∧ 1 < s
    · rw [if_pos h, if_pos h]
      exact pz_str_ge (by omega) (by omega)
    · rw [if_neg h, if_neg h]
theorem pz_strip_even {s : Nat} (h : s % 2 = 0 ∨ s = 1) : pz_strip s = s := by
  unfold pz_strip
  cases s with
  | zero => rfl
  | succ s => show (if (s + 1) % 2 = 1 ∧ 1 < s + 1 then _ else _) = _; rw [if_neg (by omega)]
theorem pz_strip_odd {s : Nat} (h : 1 ≤ s) : pz_strip (2 * s + 1) = pz_strip s := by
  unfold pz_strip
  show (if (2 * s + 1) % 2 = 1 ∧ 1 < 2 * s + 1 then pz_str (2 * s) ((2 * s + 1) / 2) else _) = _
  rw [if_pos (by omega), show (2 * s + 1) / 2 = s by omega]
  exact pz_str_ge (by omega) (by omega)
theorem pz_dep_ge : ∀ {f s g : Nat}, s ≤ f → s ≤ g → pz_dep f s = pz_dep g s
  | 0, s, g, h1, h2 => by
    have : s = 0 := by omega
    subst this
    cases g with
    | zero => rfl
    | succ g => show _ = (if 1 < 0 then _ else 0); rw [if_neg (by omega)]; rfl
  | f + 1, s, 0, h1, h2 => by
    have : s = 0 := by omega
    subst this
    show (if 1 < 0 then _ else 0) = _
    rw [if_neg (by omega)]
    rfl
  | f + 1, s, g + 1, h1, h2 => by
    show (if 1 < s then pz_dep f (s / 2) + 1 else 0) = (if 1 < s then pz_dep g (s / 2) + 1 else 0)
    by_cases h : 1 < s
    · rw [if_pos h, if_pos h, pz_dep_ge (f := f) (g := g) (s := s / 2) (by omega) (by omega)]
    · rw [if_neg h, if_neg h]
theorem pz_dp_push {s x : Nat} (h : 1 ≤ s) (hx : x = 2 * s ∨ x = 2 * s + 1) : pz_dp x = pz_dp s + 1 := by
  unfold pz_dp
  obtain ⟨y, rfl⟩ : ∃ y, x = y + 1 := ⟨x - 1, by omega⟩
  show (if 1 < y + 1 then pz_dep y ((y + 1) / 2) + 1 else 0) = _
  rw [if_pos (by omega), show (y + 1) / 2 = s by omega, pz_dep_ge (f := y) (g := s) (by omega) (by omega)]
theorem pq_op (h : pz50 t N n AH PL KD VL sw ln ro rm un rt rom rk fa fp be fi) {S : Nat} (hm : pz7 t N n 9) (hs : pz90 t N n S) (hk : pz_op KD = true) : pz53 t N (n + 1) AH sw ln ro rm un rt rom rk fa fp be fi ∧ pz7 t N (n + 1) 8 ∧ pz90 t N (n + 1) S := by
  unfold pz50 pz53 pz7 pz90 pz_dt at *
  rw [pz_cf_s]
  generalize pz_cf t N n = c at *
  obtain ⟨md, p, no, ls, ⟨r, m, k⟩, u, s, o, a, b⟩ := c
  simp only [pz_md, pz_p, pz_no, pz_ls, pz_fr, pz_fm, pz_fk, pz_un, pz_s, pz_o, pz_ro, pz_rm] at *
  obtain ⟨h1, h2, h3, h4, e1, e2, e3, e4, e5, e6, e7, e8, e9, e10, e11⟩ := h
  subst hm hs h3
  have g : pz_kd t N p ≠ 41 := by
    intro z
    rw [z] at hk
    cases hk
  simp [pz_st, hk, g, h1, e1, e2, e3, e4, e5, e6, e7, e8, e9, e10]
  exact e11
theorem pq_sw1 (hm : pz7 t N n 0) (h0 : pz111 t N n) (hw : pz61 t N n 0) : pz64 t N n 1 := by
  unfold pz64 pz7 pz111 pz61 at *
  rw [pz_cf_s]
  generalize pz_cf t N n = c at *
  obtain ⟨md, p, no, ls, ⟨r, m, k⟩, u, s, o, a, b⟩ := c
  simp only [pz_md, pz_p, pz_no, pz_ls, pz_fr, pz_fm, pz_fk, pz_un, pz_s, pz_o, pz_ro, pz_rm] at *
  subst hm
  simp [pz_st, h0, hw]
theorem pq_sw2 (h : pz50 t N n AH PL KD VL sw ln ro rm un rt rom rk fa fp be fi) (hm : pz7 t N n 0) (hw : pz60 t N n 0) : pz53 t N (n + 1) AH sw ln ro rm un rt rom rk fa fp be fi ∧ pz7 t N (n + 1) 1 := by
  unfold pz50 pz53 pz7 pz60 pz_dt at *
  rw [pz_cf_s]
  generalize pz_cf t N n = c at *
  obtain ⟨md, p, no, ls, ⟨r, m, k⟩, u, s, o, a, b⟩ := c
  simp only [pz_md, pz_p, pz_no, pz_ls, pz_fr, pz_fm, pz_fk, pz_un, pz_s, pz_o, pz_ro, pz_rm] at *
  obtain ⟨h1, h2, h3, h4, e1, e2, e3, e4, e5, e6, e7, e8, e9, e10, e11⟩ := h
  subst hm
  have g := pz_wd1 hw
  simp [pz_st, hw, g, h1, e1, e2, e3, e4, e5, e6, e7, e8, e9, e10]
  exact e11
theorem pq_sw3 (h : pz50 t N n AH PL KD VL sw ln ro rm un rt rom rk fa fp be fi) {v : Nat} (hm : pz7 t N n 1) (hv : pz66 t N n v) (hl : 2 ≤ v) (hh : v ≤ 10) : pz53 t N (n + 1) AH v ln ro rm un rt rom rk fa fp be fi ∧ pz7 t N (n + 1) 2 := by
  unfold pz50 pz53 pz7 pz66 pz_dt at *
  rw [pz_cf_s]
  generalize pz_cf t N n = c at *
  obtain ⟨md, p, no, ls, ⟨r, m, k⟩, u, s, o, a, b⟩ := c
  simp only [pz_md, pz_p, pz_no, pz_ls, pz_fr, pz_fm, pz_fk, pz_un, pz_s, pz_o, pz_ro, pz_rm] at *
  obtain ⟨h1, h2, h3, h4, e1, e2, e3, e4, e5, e6, e7, e8, e9, e10, e11⟩ := h
  subst hm
  obtain ⟨g1, rfl⟩ := hv
  have g2 : ¬ (pz_vl t N p < 2 ∨ 10 < pz_vl t N p) := by omega
  simp only [pz_st, g1, g2]
  simp [h1, e1, e2, e3, e4, e5, e6, e7, e8, e9, e10]
  exact e11
theorem pq_rl_ro (h : pz50 t N n AH PL KD VL sw ln ro rm un rt rom rk fa fp be fi) (hm : pz7 t N n 3) (n1 : pz61 t N n 1)  (hw : pz60 t N n 2) (hf : rt = 0) : pz53 t N (n + 1) AH sw ln ro rm un 1 rom rk fa fp be fi ∧ pz7 t N (n + 1) 6 := by
  unfold pz50 pz53 pz7 pz60 pz61 pz_dt at *
  rw [pz_cf_s]
  generalize pz_cf t N n = c at *
  obtain ⟨md, p, no, ls, ⟨r, m, k⟩, u, s, o, a, b⟩ := c
  simp only [pz_md, pz_p, pz_no, pz_ls, pz_fr, pz_fm, pz_fk, pz_un, pz_s, pz_o, pz_ro, pz_rm] at *
  obtain ⟨h1, h2, h3, h4, e1, e2, e3, e4, e5, e6, e7, e8, e9, e10, e11⟩ := h
  subst hm
  have g := pz_wd1 hw
  have gf : r = false := by
    rw [e6] at hf
    cases r
    · rfl
    · cases hf
  simp only [pz_st, n1, g, gf, hw]
  simp [h1, e1, e2, e3, e4, e5, e7, e8, e9, e10]
  first | exact e11 | exact ⟨rfl, e11⟩ | exact ⟨by rfl, e11⟩
theorem pq_rl_rm (h : pz50 t N n AH PL KD VL sw ln ro rm un rt rom rk fa fp be fi) (hm : pz7 t N n 3) (n1 : pz61 t N n 1) (hw : pz60 t N n 3) (hf : rom = 0) : pz53 t N (n + 1) AH sw ln ro rm un rt 1 rk fa fp be fi ∧ pz7 t N (n + 1) 7 := by
  unfold pz50 pz53 pz7 pz60 pz61 pz_dt at *
  rw [pz_cf_s]
  generalize pz_cf t N n = c at *
  obtain ⟨md, p, no, ls, ⟨r, m, k⟩, u, s, o, a, b⟩ := c
  simp only [pz_md, pz_p, pz_no, pz_ls, pz_fr, pz_fm, pz_fk, pz_un, pz_s, pz_o, pz_ro, pz_rm] at *
  obtain ⟨h1, h2, h3, h4, e1, e2, e3, e4, e5, e6, e7, e8, e9, e10, e11⟩ := h
  subst hm
  have g := pz_wd1 hw
  have gf : m = false := by
    rw [e7] at hf
    cases m
    · rfl
    · cases hf
  have g2 : ¬ (pz_wd t N p 2 = true ∧ r = false) := by
    rintro ⟨z1, z2⟩
    exact pz_wdx (i := 3) (by decide) (by decide) (by decide) z1 hw
  simp only [pz_st, n1, g, gf, hw, g2]
  simp [h1, e1, e2, e3, e4, e5, e6, e8, e9, e10]
  first | exact e11 | exact ⟨rfl, e11⟩ | exact ⟨by rfl, e11⟩
theorem pq_rl_rk (h : pz50 t N n AH PL KD VL sw ln ro rm un rt rom rk fa fp be fi) (hm : pz7 t N n 3) (n1 : pz61 t N n 1) (hw : pz60 t N n 4) (hf : rk = 0) : pz53 t N (n + 1) AH sw ln ro rm un rt rom 1 fa fp be fi ∧ pz7 t N (n + 1) 8 ∧ pz90 t N (n + 1) 1 := by
  unfold pz50 pz53 pz7 pz60 pz61 pz90 pz_dt at *
  rw [pz_cf_s]
  generalize pz_cf t N n = c at *
  obtain ⟨md, p, no, ls, ⟨r, m, k⟩, u, s, o, a, b⟩ := c
  simp only [pz_md, pz_p, pz_no, pz_ls, pz_fr, pz_fm, pz_fk, pz_un, pz_s, pz_o, pz_ro, pz_rm] at *
  obtain ⟨h1, h2, h3, h4, e1, e2, e3, e4, e5, e6, e7, e8, e9, e10, e11⟩ := h
  subst hm
  have g := pz_wd1 hw
  have gf : k = false := by
    rw [e8] at hf
    cases k
    · rfl
    · cases hf
  have g2 : ¬ (pz_wd t N p 2 = true ∧ r = false) := by
    rintro ⟨z1, z2⟩
    exact pz_wdx (i := 1) (by decide) (by decide) (by decide) z1 hw
  have g3 : ¬ (pz_wd t N p 3 = true ∧ m = false) := by
    rintro ⟨z1, z2⟩
    exact pz_wdx (i := 1) (by decide) (by decide) (by decide) z1 hw
  simp only [pz_st, n1, g, gf, hw, g2, g3]
  simp [h1, e1, e2, e3, e4, e5, e6, e7, e9, e10]
  first | exact e11 | exact ⟨rfl, e11⟩ | exact ⟨by rfl, e11⟩
theorem pq_rl_ro2 (h : pz50 t N n AH PL KD VL sw ln ro rm un rt rom rk fa fp be fi) {v : Nat} (hm : pz7 t N n 6) (hv : pz104 t N n v) : pz53 t N (n + 1) AH sw ln v rm un rt rom rk fa fp be fi ∧ pz7 t N (n + 1) 2 := by
  unfold pz50 pz53 pz7 pz104 pz66 pz_dt at *
  rw [pz_cf_s]
  generalize pz_cf t N n = c at *
  obtain ⟨md, p, no, ls, ⟨r, m, k⟩, u, s, o, a, b⟩ := c
  simp only [pz_md, pz_p, pz_no, pz_ls, pz_fr, pz_fm, pz_fk, pz_un, pz_s, pz_o, pz_ro, pz_rm] at *
  obtain ⟨h1, h2, h3, h4, e1, e2, e3, e4, e5, e6, e7, e8, e9, e10, e11⟩ := h
  subst hm
  obtain ⟨⟨g1, rfl⟩, g3⟩ := hv
  have g2 : ¬ no ≤ pz_vl t N p := by omega
  simp only [pz_st, g1, g2]
  simp [h1, e1, e2, e3, e4, e5, e6, e7, e8, e9, e10]
  exact e11
theorem pq_rl_rm2 (h : pz50 t N n AH PL KD VL sw ln ro rm un rt rom rk fa fp be fi) {v : Nat} (hm : pz7 t N n 7) (hv : pz66 t N n v) (hl : 1 ≤ v) (hh : v ≤ 3) : pz53 t N (n + 1) AH sw ln ro v un rt rom rk fa fp be fi ∧ pz7 t N (n + 1) 2 := by
  unfold pz50 pz53 pz7 pz66 pz_dt at *
  rw [pz_cf_s]
  generalize pz_cf t N n = c at *
  obtain ⟨md, p, no, ls, ⟨r, m, k⟩, u, s, o, a, b⟩ := c
  simp only [pz_md, pz_p, pz_no, pz_ls, pz_fr, pz_fm, pz_fk, pz_un, pz_s, pz_o, pz_ro, pz_rm] at *
  obtain ⟨h1, h2, h3, h4, e1, e2, e3, e4, e5, e6, e7, e8, e9, e10, e11⟩ := h
  subst hm
  obtain ⟨g1, rfl⟩ := hv
  have g2 : ¬ (pz_vl t N p < 1 ∨ 3 < pz_vl t N p) := by omega
  simp only [pz_st, g1, g2]
  simp [h1, e1, e2, e3, e4, e5, e6, e7, e8, e9, e10]
  exact e11
theorem pq_rl_f (h : pz50 t N n AH PL KD VL sw ln ro rm un rt rom rk fa fp be fi) (hm : pz7 t N n 3) (h0 : pz111 t N n) (n1 : pz61 t N n 1) (n2 : pz61 t N n 2 ∨ rt = 1) (n3 : pz61 t N n 3 ∨ rom = 1) (n4 : pz61 t N n 4 ∨ rk = 1) : pz64 t N n 1 := by
  unfold pz64 pz50 pz7 pz111 pz61 pz_dt at *
  rw [pz_cf_s]
  generalize pz_cf t N n = c at *
  obtain ⟨md, p, no, ls, ⟨r, m, k⟩, u, s, o, a, b⟩ := c
  simp only [pz_md, pz_p, pz_no, pz_ls, pz_fr, pz_fm, pz_fk, pz_un, pz_s, pz_o, pz_ro, pz_rm] at *
  obtain ⟨h1, h2, h3, h4, e1, e2, e3, e4, e5, e6, e7, e8, e9, e10, e11⟩ := h
  subst hm
  have g2 : ¬ (pz_wd t N p 2 = true ∧ r = false) := by
    rintro ⟨z1, z2⟩
    rcases n2 with z | z
    · rw [z1] at z; cases z
    · rw [e6, z2] at z; cases z
  have g3 : ¬ (pz_wd t N p 3 = true ∧ m = false) := by
    rintro ⟨z1, z2⟩
    rcases n3 with z | z
    · rw [z1] at z; cases z
    · rw [e7, z2] at z; cases z
  have g4 : ¬ (pz_wd t N p 4 = true ∧ k = false) := by
    rintro ⟨z1, z2⟩
    rcases n4 with z | z
    · rw [z1] at z; cases z
    · rw [e8, z2] at z; cases z
  simp only [pz_st, n1, g2, g3, g4, h0]
  simp
theorem pq_lk1 (h : pz50 t N n AH PL KD VL sw ln ro rm un rt rom rk fa fp be fi) (hm : pz7 t N n 3) (hw : pz60 t N n 1) (hl : ln = 20) : pz64 t N n 4 := by
  unfold pz64 pz50 pz7 pz60 pz_dt at *
  rw [pz_cf_s]
  generalize pz_cf t N n = c at *
  obtain ⟨md, p, no, ls, ⟨r, m, k⟩, u, s, o, a, b⟩ := c
  simp only [pz_md, pz_p, pz_no, pz_ls, pz_fr, pz_fm, pz_fk, pz_un, pz_s, pz_o, pz_ro, pz_rm] at *
  obtain ⟨h1, h2, h3, h4, e1, e2, e3, e4, e5, e6, e7, e8, e9, e10, e11⟩ := h
  subst hm
  have g := pz_wd1 hw
  have g2 : ls.length = 20 := by omega
  simp [pz_st, hw, g, g2]
theorem pq_lk2 (h : pz50 t N n AH PL KD VL sw ln ro rm un rt rom rk fa fp be fi) (hm : pz7 t N n 3) (hw : pz60 t N n 1) (hl : ln ≤ 19) : pz53 t N (n + 1) AH sw ln ro rm un rt rom rk fa fp be fi ∧ pz7 t N (n + 1) 4 := by
  unfold pz50 pz53 pz7 pz60 pz_dt at *
  rw [pz_cf_s]
  generalize pz_cf t N n = c at *
  obtain ⟨md, p, no, ls, ⟨r, m, k⟩, u, s, o, a, b⟩ := c
  simp only [pz_md, pz_p, pz_no, pz_ls, pz_fr, pz_fm, pz_fk, pz_un, pz_s, pz_o, pz_ro, pz_rm] at *
  obtain ⟨h1, h2, h3, h4, e1, e2, e3, e4, e5, e6, e7, e8, e9, e10, e11⟩ := h
  subst hm
  have g := pz_wd1 hw
  have g2 : ¬ ls.length = 20 := by omega
  simp [pz_st, hw, g, g2, h1, e1, e2, e3, e4, e5, e6, e7, e8, e9, e10]
  exact e11
theorem pq_lk4 (h : pz50 t N n AH PL KD VL sw ln ro rm un rt rom rk fa fp be fi) {v : Nat} (hm : pz7 t N n 4) (hv : pz104 t N n v) : pz53 t N (n + 1) AH sw ln ro rm un rt rom rk fa fp be fi ∧ pz7 t N (n + 1) 5 ∧ pz67 t N (n + 1) v := by
  unfold pz50 pz53 pz7 pz104 pz66 pz67 pz_dt at *
  rw [pz_cf_s]
  generalize pz_cf t N n = c at *
  obtain ⟨md, p, no, ls, ⟨r, m, k⟩, u, s, o, a, b⟩ := c
  simp only [pz_md, pz_p, pz_no, pz_ls, pz_fr, pz_fm, pz_fk, pz_un, pz_s, pz_o, pz_ro, pz_rm] at *
  obtain ⟨h1, h2, h3, h4, e1, e2, e3, e4, e5, e6, e7, e8, e9, e10, e11⟩ := h
  subst hm
  obtain ⟨⟨g1, rfl⟩, g3⟩ := hv
  have g2 : ¬ no ≤ pz_vl t N p := by omega
  simp only [pz_st, g1, g2]
  simp [h1, e1, e2, e3, e4, e5, e6, e7, e8, e9, e10]
  exact e11
theorem pq_lk5 {v : Nat} (hm : pz7 t N n 5) (ho : pz67 t N n v) (hv : pz104 t N n v) : pz64 t N n 2 := by
  unfold pz64 pz7 pz67 pz104 pz66 at *
  rw [pz_cf_s]
  generalize pz_cf t N n = c at *
  obtain ⟨md, p, no, ls, ⟨r, m, k⟩, u, s, o, a, b⟩ := c
  simp only [pz_md, pz_p, pz_no, pz_ls, pz_fr, pz_fm, pz_fk, pz_un, pz_s, pz_o, pz_ro, pz_rm] at *
  subst hm ho
  obtain ⟨⟨g1, g2⟩, g3⟩ := hv
  simp [pz_st, g1, g2]
theorem pq_lk6 {v o1 : Nat} (hm : pz7 t N n 5) (ho : pz67 t N n o1) (hv : pz104 t N n v) (hne : v ≠ o1) (hj : pz112 t N n o1 v) : pz64 t N n 3 := by
  unfold pz64 pz7 pz67 pz104 pz66 pz112 at *
  rw [pz_cf_s]
  generalize pz_cf t N n = c at *
  obtain ⟨md, p, no, ls, ⟨r, m, k⟩, u, s, o, a, b⟩ := c
  simp only [pz_md, pz_p, pz_no, pz_ls, pz_fr, pz_fm, pz_fk, pz_un, pz_s, pz_o, pz_ro, pz_rm] at *
  subst hm ho
  obtain ⟨⟨g1, rfl⟩, g3⟩ := hv
  have g2 : ¬ (no ≤ pz_vl t N p ∨ pz_vl t N p = o) := by omega
  simp only [pz_st, g1, g2, hj]
  simp
theorem pq_al {o1 v : Nat} {be' fi' : Nat → Option Nat} (h : pz50 t N n AH PL KD VL sw ln ro rm un rt rom rk fa fp be fi) (hm : pz7 t N n 5) (ho : pz67 t N n o1) (hv : pz104 t N n v) (hne : v ≠ o1) (hj : pz113 t N n o1 v)
    (b1 : ∀ j, j < 2 * ln → be' j = be j) (b2 : ∀ j, j < 2 * ln → fi' j = fi j) (b3 : be' (2 * ln) = some (4 * o1)) (b4 : fi' (2 * ln) = some (4 * v)) (b5 : be' (2 * ln + 1) = some (4 * v)) (b6 : fi' (2 * ln + 1) = some (4 * o1)) : pz53 t N (n + 1) AH sw (ln + 1) ro rm un rt rom rk fa fp be' fi' ∧ pz7 t N (n + 1) 2 := by
  unfold pz50 pz53 pz7 pz67 pz104 pz66 pz113 pz_dt at *
  rw [pz_cf_s]
  generalize pz_cf t N n = c at *
  obtain ⟨md, p, no, ls, ⟨r, m, k⟩, u, s, o, a, b⟩ := c
  simp only [pz_md, pz_p, pz_no, pz_ls, pz_fr, pz_fm, pz_fk, pz_un, pz_s, pz_o, pz_ro, pz_rm] at *
  obtain ⟨h1, h2, h3, h4, e1, e2, e3, e4, e5, e6, e7, e8, e9, e10, e11⟩ := h
  subst hm ho
  obtain ⟨⟨g1, rfl⟩, g3⟩ := hv
  have g2 : ¬ (no ≤ pz_vl t N p ∨ pz_vl t N p = o) := by omega
  simp only [pz_st, g1, g2, hj]
  simp [h1, e1, e2, e3, e4, e5, e6, e7, e8, e9, e10]
  intro l x y hl
  by_cases hlt : l < ls.length
  · rw [List.getElem?_append_left hlt] at hl
    obtain ⟨c1, c2, c3, c4⟩ := e11 l x y hl
    rw [b1 _ (by omega), b2 _ (by omega), b1 _ (by omega), b2 _ (by omega)]
    exact ⟨c1, c2, c3, c4⟩
  · have hl2 := (List.getElem?_eq_some_iff.mp hl).1
    rw [List.length_append] at hl2
    have hl3 : l = ls.length := by have : [(o, pz_vl t N p)].length = 1 := rfl; omega
    subst hl3
    rw [List.getElem?_append_right (Nat.le_refl _), Nat.sub_self] at hl
    cases hl
    rw [← e2]
    exact ⟨b3, b4, b5, b6⟩
theorem pq_rt2 (h : pz50 t N n AH PL KD VL sw ln ro rm un rt rom rk fa fp be fi) (hm : pz7 t N n 0) (hk : KD = 0) : pz110 t N sw ln ro rm un rt rom rk fa fp be fi := by
  refine ⟨n + 1, ?_⟩
  unfold pz50 pz7 pz_dt at *
  rw [pz_cf_s]
  generalize pz_cf t N n = c at *
  obtain ⟨md, p, no, ls, ⟨r, m, k⟩, u, s, o, a, b⟩ := c
  simp only [pz_md, pz_p, pz_no, pz_ls, pz_fr, pz_fm, pz_fk, pz_un, pz_s, pz_o, pz_ro, pz_rm] at *
  obtain ⟨h1, h2, h3, h4, e1, e2, e3, e4, e5, e6, e7, e8, e9, e10, e11⟩ := h
  subst hm
  have g : pz_kd t N p = 0 := by omega
  simp [pz_st, g, e1, e2, e3, e4, e5, e6, e7, e8, e9, e10]
  exact e11
theorem pq_rt8 (h : pz50 t N n AH PL KD VL sw ln ro rm un rt rom rk fa fp be fi) (hm : pz7 t N n 3) (hk : KD = 0) : pz110 t N sw ln ro rm un rt rom rk fa fp be fi := by
  refine ⟨n + 1, ?_⟩
  unfold pz50 pz7 pz_dt at *
  rw [pz_cf_s]
  generalize pz_cf t N n = c at *
  obtain ⟨md, p, no, ls, ⟨r, m, k⟩, u, s, o, a, b⟩ := c
  simp only [pz_md, pz_p, pz_no, pz_ls, pz_fr, pz_fm, pz_fk, pz_un, pz_s, pz_o, pz_ro, pz_rm] at *
  obtain ⟨h1, h2, h3, h4, e1, e2, e3, e4, e5, e6, e7, e8, e9, e10, e11⟩ := h
  subst hm
  have g : pz_kd t N p = 0 := by omega
  simp [pz_st, g, e1, e2, e3, e4, e5, e6, e7, e8, e9, e10]
  exact e11
theorem pq_rt1 {be fi : Nat → Option Nat} : pz53 t N 0 0 0 0 0 1 0 0 0 0 0 4294967295 be fi ∧ pz7 t N 0 0 :=
  ⟨⟨rfl, rfl, rfl, rfl, rfl, rfl, rfl, rfl, rfl, rfl, rfl, fun l a b h => by cases h⟩, rfl⟩
/-- the place rises -/
theorem pz_nx_gt {p : Nat} (h : pz_kd t N p ≠ 0) : p + 1 ≤ pz_nx t N p := by
  have ha : p ≤ pz_at t N p := pz_e_ge
  have hN : ¬ N ≤ pz_at t N p := by
    intro z
    unfold pz_kd at h
    rw [if_pos z] at h
    exact h rfl
  unfold pz_nx
  rw [if_neg hN]
  by_cases hl : pz_lt (pz_b t (pz_at t N p)) = true
  · rw [if_pos hl, pz_e_on (by omega) hl]
    have := pz_e_ge (P := pz_lt) (t := t) (N := N) (p := pz_at t N p + 1)
    omega
  · rw [if_neg hl]
    by_cases hd : pz_dg (pz_b t (pz_at t N p)) = true
    · rw [if_pos hd, pz_e_on (by omega) hd]
      have := pz_e_ge (P := pz_dg) (t := t) (N := N) (p := pz_at t N p + 1)
      omega
    · rw [if_neg hd]
      omega
theorem pz_end {p : Nat} (h : N ≤ p) : pz_kd t N p = 0 := by
  have ha : p ≤ pz_at t N p := pz_e_ge
  unfold pz_kd
  rw [if_pos (by omega)]
def pz_Q (p : Nat) (c : pz_C) : Prop := (pz_md c ≤ 9 ∧ p + 1 ≤ pz_p c) ∨ pz_md c = 20 ∨ pz_md c = 21
theorem pz_ite {Q : pz_C → Prop} {c : Prop} [Decidable c] {x y : pz_C} (h1 : c → Q x) (h2 : ¬ c → Q y) : Q (if c then x else y) := by
  by_cases h : c
  · rw [if_pos h]; exact h1 h
  · rw [if_neg h]; exact h2 h
theorem pz_st_p {c : pz_C} (hc : pz_md c ≤ 9) : pz_Q (pz_p c) (pz_st t N c) := by
  obtain ⟨md, p, no, ls, ⟨r, m, k⟩, u, s, o, a, b⟩ := c
  replace hc : md ≤ 9 := hc
  have hw : ∀ j, pz_wd t N p j = true → p + 1 ≤ pz_nx t N p := fun j hj => pz_nx_gt (by rw [pz_wd1 hj]; decide)
  have hg : pz_kd t N p ≠ 0 → p + 1 ≤ pz_nx t N p := pz_nx_gt
  have hop : pz_op (pz_kd t N p) = true → p + 1 ≤ pz_nx t N p := fun z => pz_nx_gt (by intro y; rw [y] at z; cases z)
  have hfl : ∀ x y, pz_Q p (pz_fl x y) := fun _ _ => Or.inr (Or.inr rfl)
  have hn : ∀ (x : Nat) (y : Nat × List (Nat × Nat) × (Bool × Bool × Bool) × Nat × Nat × Nat × Nat × Nat), x ≤ 9 → p + 1 ≤ pz_nx t N p → pz_Q p (x, pz_nx t N p, y) := fun _ _ h1 h2 => Or.inl ⟨h1, h2⟩
  show pz_Q p (pz_st t N (md, p, no, ls, (r, m, k), u, s, o, a, b))
  unfold pz_st
  dsimp only
  refine pz_ite (fun _ => ?_) (fun _ => ?_)
  · exact pz_ite (fun _ => Or.inr (Or.inl rfl)) (fun h0 => pz_ite (fun _ => hn _ _ (by decide) (hg h0)) (fun _ => hfl _ _))
  refine pz_ite (fun _ => ?_) (fun _ => ?_)
  · exact pz_ite (fun _ => hfl _ _) (fun h0 => pz_ite (fun _ => hfl _ _) (fun _ => hn _ _ (by decide) (hg (by omega))))
  refine pz_ite (fun _ => ?_) (fun _ => ?_)
  · exact pz_ite (fun _ => hfl _ _) (fun h0 => hn _ _ (by decide) (hg (by omega)))
  refine pz_ite (fun _ => ?_) (fun _ => ?_)
  · exact pz_ite (fun _ => Or.inr (Or.inl rfl)) (fun h0 => pz_ite (fun _ => pz_ite (fun _ => hfl _ _) (fun _ => hn _ _ (by decide) (hg h0))) (fun _ => pz_ite (fun _ => hn _ _ (by decide) (hg h0)) (fun _ => pz_ite (fun _ => hn _ _ (by decide) (hg h0)) (fun _ => pz_ite (fun _ => hn _ _ (by decide) (hg h0)) (fun _ => hfl _ _)))))
  refine pz_ite (fun _ => ?_) (fun _ => ?_)
  · exact pz_ite (fun _ => hfl _ _) (fun h0 => pz_ite (fun _ => hfl _ _) (fun _ => hn _ _ (by decide) (hg (by omega))))
  refine pz_ite (fun _ => ?_) (fun _ => ?_)
  · exact pz_ite (fun _ => hfl _ _) (fun h0 => pz_ite (fun _ => hfl _ _) (fun _ => pz_ite (fun _ => hfl _ _) (fun _ => hn _ _ (by decide) (hg (by omega)))))
  refine pz_ite (fun _ => ?_) (fun _ => ?_)
  · exact pz_ite (fun _ => hfl _ _) (fun h0 => pz_ite (fun _ => hfl _ _) (fun _ => hn _ _ (by decide) (hg (by omega))))
  refine pz_ite (fun _ => ?_) (fun _ => ?_)
  · exact pz_ite (fun _ => hfl _ _) (fun h0 => pz_ite (fun _ => hfl _ _) (fun _ => hn _ _ (by decide) (hg (by omega))))
  refine pz_ite (fun _ => ?_) (fun _ => ?_)
  · refine pz_ite (fun _ => hfl _ _) (fun h0 => pz_ite (fun _ => hfl _ _) (fun _ => pz_ite (fun _ => hfl _ _) (fun _ => ?_)))
    have h1 : p + 1 ≤ pz_nx t N p := by
      rcases Classical.not_not.mp h0 with z | z | z | z | z | z
      · exact hg (by omega)
      · exact hg (by omega)
      · exact hg (by omega)
      · exact hw _ z
      · exact hw _ z
      · exact hw _ z
    exact pz_ite (fun _ => hn _ _ (by decide) h1) (fun _ => pz_ite (fun _ => hn _ _ (by decide) h1) (fun _ => hn _ _ (by decide) h1))
  refine pz_ite (fun _ => ?_) (fun _ => ?_)
  · exact pz_ite (fun h0 => hn _ _ (by decide) (hg (by omega))) (fun _ => pz_ite (fun h0 => hn _ _ (by decide) (hop h0)) (fun _ => pz_ite (fun _ => hfl _ _) (fun _ => pz_ite (fun _ => hfl _ _) (fun h0 => hn _ _ (by decide) (hg (by omega))))))
  · exfalso; omega
theorem pz_p_ge : ∀ n, (pz_md (pz_cf t N n) ≤ 9 ∧ n ≤ pz_p (pz_cf t N n)) ∨ pz_md (pz_cf t N n) = 20 ∨ pz_md (pz_cf t N n) = 21
  | 0 => Or.inl ⟨Nat.zero_le 9, Nat.zero_le _⟩
  | n + 1 => by
    rcases pz_p_ge n with ⟨h1, h2⟩ | h | h
    · rcases pz_st_p (t := t) (N := N) h1 with ⟨g1, g2⟩ | g
      · exact Or.inl ⟨g1, by rw [pz_cf_s]; omega⟩
      · exact Or.inr g
    · rw [pz_fin (Or.inl h) 1]; exact Or.inr (Or.inl h)
    · rw [pz_fin (Or.inr h) 1]; exact Or.inr (Or.inr h)
/-- far enough: the end -/
theorem pq_far {M : Nat} (hm : pz7 t N n M) (hM : M ≤ 9) (hN : N ≤ 800) (hn : 800 ≤ n) : pz_kd t N (pz_p (pz_cf t N n)) = 0 := by
  unfold pz7 at hm
  rcases pz_p_ge (t := t) (N := N) n with ⟨h1, h2⟩ | h | h
  · exact pz_end (by omega)
  · omega
  · omega
end PKN
theorem pz_mc {x v : Nat} (h : pz_m x = v) : (x ≤ 1000 ∧ v = x) ∨ (1000 < x ∧ v = 1000) := by
  unfold pz_m at h
  by_cases h1 : x ≤ 1000
  · rw [if_pos h1] at h; exact Or.inl ⟨h1, h.symm⟩
  · rw [if_neg h1] at h; exact Or.inr ⟨by omega, h.symm⟩
theorem pz_op_no {k : Nat} (h1 : k ≠ 43) (h2 : k ≠ 45) (h3 : k ≠ 42 ∧ k ≠ 47 ∧ k ≠ 37) : pz_op k = false := by
  unfold pz_op
  obtain ⟨h3, h4, h5⟩ := h3
  simp [h1, h2, h3, h4, h5]
theorem pz_is_no {t N p : Nat} {w : List Nat} (h : pz_kd t N p ≠ 1 ∨ pz_nx t N p - pz_at t N p ≠ w.length ∨ ∃ i, i < w.length ∧ pz_b t (pz_at t N p + i) ≠ w.getD i 0) : pz_is t N p w = false := by
  cases e : pz_is t N p w with
  | false => rfl
  | true =>
    exfalso
    unfold pz_is at e
    obtain ⟨e1, e2⟩ := Bool.and_eq_true_iff.mp e
    obtain ⟨e2, e3⟩ := Bool.and_eq_true_iff.mp e2
    rcases h with h | h | ⟨i, h1, h2⟩
    · exact h (eq_of_beq e1)
    · exact h (eq_of_beq e2)
    · exact h2 (eq_of_beq (List.all_eq_true.mp e3 i (List.mem_range.mpr h1)))
theorem pz_is_yes {t N p : Nat} {w : List Nat} (h1 : pz_kd t N p = 1) (h2 : pz_nx t N p - pz_at t N p = w.length) (h3 : ∀ i, i < w.length → pz_b t (pz_at t N p + i) = w.getD i 0) : pz_is t N p w = true := by
  unfold pz_is
  rw [h1, h2]
  refine Bool.and_eq_true_iff.mpr ⟨rfl, Bool.and_eq_true_iff.mpr ⟨beq_self_eq_true _, List.all_eq_true.mpr (fun i hi => ?_)⟩⟩
  exact beq_iff_eq.mpr (h3 i (List.mem_range.mp hi))
theorem pz_str_1 : ∀ {f s : Nat}, 1 ≤ s → 1 ≤ pz_str f s
  | 0, _, h => h
  | f + 1, s, h => by
    show 1 ≤ (if s % 2 = 1 ∧ 1 < s then pz_str f (s / 2) else s)
    by_cases h1 : s % 2 = 1 ∧ 1 < s
    · rw [if_pos h1]; exact pz_str_1 (by omega)
    · rw [if_neg h1]; exact h
theorem pz_strip_1 {s : Nat} (h : 1 ≤ s) : 1 ≤ pz_strip s := pz_str_1 h
theorem pz_jn_no {ls : List (Nat × Nat)} {a b : Nat} (h : ∀ (j x y : Nat), ls[j]? = some (x, y) → ¬ (x = a ∧ y = b) ∧ ¬ (y = a ∧ x = b)) : pz_jn ls a b = false := by
  cases e : pz_jn ls a b with
  | false => rfl
  | true =>
    exfalso
    obtain ⟨⟨x, y⟩, h1, h2⟩ := List.any_eq_true.mp e
    obtain ⟨j, hj⟩ := List.getElem?_of_mem h1
    obtain ⟨g1, g2⟩ := h j x y hj
    rcases Bool.or_eq_true_iff.mp h2 with z | z
    · obtain ⟨z1, z2⟩ := Bool.and_eq_true_iff.mp z
      exact g1 ⟨eq_of_beq z1, eq_of_beq z2⟩
    · obtain ⟨z1, z2⟩ := Bool.and_eq_true_iff.mp z
      exact g2 ⟨eq_of_beq z2, eq_of_beq z1⟩
theorem pz_jn_yes {ls : List (Nat × Nat)} {a b j x y : Nat} (hl : ls[j]? = some (x, y)) (h : (x = a ∧ y = b) ∨ (y = a ∧ x = b)) : pz_jn ls a b = true := by
  refine List.any_eq_true.mpr ⟨(x, y), List.mem_of_getElem? hl, ?_⟩
  rcases h with ⟨rfl, rfl⟩ | ⟨rfl, rfl⟩
  · exact Bool.or_eq_true_iff.mpr (Or.inl (Bool.and_eq_true_iff.mpr ⟨beq_self_eq_true _, beq_self_eq_true _⟩))
  · exact Bool.or_eq_true_iff.mpr (Or.inr (Bool.and_eq_true_iff.mpr ⟨beq_self_eq_true _, beq_self_eq_true _⟩))
theorem pz_dt_x {c : pz_C} {sw ln ro rm un rt rom rk fa fp : Nat} {be fi be' fi' : Nat → Option Nat} (h : pz_dt c sw ln ro rm un rt rom rk fa fp be fi) (h1 : ∀ j, j < 2 * ln → be' j = be j) (h2 : ∀ j, j < 2 * ln → fi' j = fi j) : pz_dt c sw ln ro rm un rt rom rk fa fp be' fi' := by
  obtain ⟨e1, e2, e3, e4, e5, e6, e7, e8, e9, e10, e11⟩ := h
  refine ⟨e1, e2, e3, e4, e5, e6, e7, e8, e9, e10, fun l a b hl => ?_⟩
  have hlt := (List.getElem?_eq_some_iff.mp hl).1
  obtain ⟨c1, c2, c3, c4⟩ := e11 l a b hl
  rw [h1 _ (by omega), h2 _ (by omega), h1 _ (by omega), h2 _ (by omega)]
  exact ⟨c1, c2, c3, c4⟩

/-! A token is loaded -/
theorem pz_kd_end {t N p : Nat} (h : N ≤ pz_at t N p) : pz_kd t N p = 0 ∧ pz_nx t N p = pz_at t N p := by
  unfold pz_kd pz_nx
  rw [if_pos h, if_pos h]
  exact ⟨rfl, rfl⟩
theorem pz_kd_wd {t N p : Nat} (h : pz_at t N p < N) (hb : pz_lt (pz_b t (pz_at t N p)) = true) : pz_kd t N p = 1 ∧ pz_nx t N p = pz_e pz_lt t N (pz_at t N p + 1) := by
  refine ⟨?_, ?_⟩
  · unfold pz_kd
    rw [if_neg (by omega), if_pos hb]
  · unfold pz_nx
    rw [if_neg (by omega), if_pos hb, pz_e_on h hb]
theorem pz_dg_lt {c : Nat} (h : pz_dg c = true) : pz_lt c = false := by
  unfold pz_dg pz_lt at *
  have h1 := of_decide_eq_true (Bool.and_eq_true_iff.mp h).2
  rw [decide_eq_false (show ¬ 97 ≤ c by omega)]
  rfl
theorem pz_kd_nm {t N p : Nat} (h : pz_at t N p < N) (hb : pz_dg (pz_b t (pz_at t N p)) = true) : pz_kd t N p = 2 ∧ pz_nx t N p = pz_e pz_dg t N (pz_at t N p + 1) ∧ pz_vl t N p = pz_n t N (pz_at t N p + 1) (pz_m (pz_b t (pz_at t N p) - 48)) := by
  have hl := pz_dg_lt hb
  refine ⟨?_, ?_, ?_⟩
  · unfold pz_kd
    rw [if_neg (by omega), hl, if_neg (by decide), if_pos hb]
  · unfold pz_nx
    rw [if_neg (by omega), hl, if_neg (by decide), if_pos hb, pz_e_on h hb]
  · unfold pz_vl
    rw [pz_n_on h hb, Nat.mul_zero, Nat.zero_add]
theorem pz_kd_sg {t N p : Nat} (h : pz_at t N p < N) (h1 : pz_lt (pz_b t (pz_at t N p)) = false) (h2 : pz_dg (pz_b t (pz_at t N p)) = false) : pz_kd t N p = (if pz_sg (pz_b t (pz_at t N p)) then pz_b t (pz_at t N p) else 3) ∧ pz_nx t N p = pz_at t N p + 1 := by
  refine ⟨?_, ?_⟩
  · unfold pz_kd
    rw [if_neg (by omega), h1, h2, if_neg (by decide), if_neg (by decide)]
  · unfold pz_nx
    rw [if_neg (by omega), h1, h2, if_neg (by decide), if_neg (by decide)]
theorem pz_lt_yes {c : Nat} (h1 : 97 ≤ c) (h2 : c ≤ 122) : pz_lt c = true := by
  unfold pz_lt
  rw [decide_eq_true h1, decide_eq_true h2]
  rfl
theorem pz_lt_no {c : Nat} (h : c < 97 ∨ 122 < c) : pz_lt c = false := by
  unfold pz_lt
  rcases h with h | h
  · rw [decide_eq_false (show ¬ 97 ≤ c by omega)]; rfl
  · rw [decide_eq_false (show ¬ c ≤ 122 by omega), Bool.and_false]
theorem pz_dg_yes {c : Nat} (h1 : 48 ≤ c) (h2 : c ≤ 57) : pz_dg c = true := by
  unfold pz_dg
  rw [decide_eq_true h1, decide_eq_true h2]
  rfl
theorem pz_dg_no {c : Nat} (h : c < 48 ∨ 57 < c) : pz_dg c = false := by
  unfold pz_dg
  rcases h with h | h
  · rw [decide_eq_false (show ¬ 48 ≤ c by omega)]; rfl
  · rw [decide_eq_false (show ¬ c ≤ 57 by omega), Bool.and_false]
theorem pz_bl_no {c : Nat} (h1 : c ≠ 32) (h2 : c ≠ 10) : pz_bl c = false := by
  unfold pz_bl
  simp [h1, h2]
theorem pz_sg_no {c : Nat} (h1 : c ≠ 59) (h2 : c ≠ 40) (h3 : c ≠ 41) (h4 : c ≠ 43) (h5 : c ≠ 45) (h6 : c ≠ 42) (h7 : c ≠ 47) (h8 : c ≠ 37) : pz_sg c = false := by
  unfold pz_sg
  simp [h1, h2, h3, h4, h5, h6, h7, h8]

/-! What the class's named facts say of the heap -/
abbrev pz_gt (g : Nat) : Nat := g / 4 / 1024
abbrev pz_gN (g : Nat) : Nat := g / 4 % 1024
abbrev pz_cF (g n : Nat) : pz_C := pz_cf (pz_gt g) (pz_gN g) (n / 4)
noncomputable def pz_x30 (g : Nat) (sz : Option Nat) (tp : Nat → Option Nat) : Prop := ay_ln sz = pz_gN g ∧ pz_gN g ≤ 800 ∧ ∀ j, j < pz_gN g → tp j = some (4 * pz_b (pz_gt g) j)
noncomputable def pz_x31 (be fi op od : Option Nat) : Prop := be = some 54 ∧ fi = some 58 ∧ op = some 70 ∧ od = some 74
noncomputable def pz_xd (g n : Nat) (sw ln ro rm un rt rom rk fa fp : Option Nat) (be fi : Nat → Option Nat) : Prop := pz_dt (pz_cF g n) (ay_ln sw) (ay_ln ln) (ay_ln ro) (ay_ln rm) (ay_ln un) (ay_ln rt) (ay_ln rom) (ay_ln rk) (ay_ln fa) (ay_ln fp) be fi
noncomputable def pz_x53 (g n : Nat) (ah sw ln ro rm un rt rom rk fa fp : Option Nat) (be fi : Nat → Option Nat) : Prop := pz_at (pz_gt g) (pz_gN g) (ay_ln ah) = pz_at (pz_gt g) (pz_gN g) (pz_p (pz_cF g n)) ∧ pz_xd g n sw ln ro rm un rt rom rk fa fp be fi
noncomputable def pz_x50 (g n : Nat) (ah pl kd vl sw ln ro rm un rt rom rk fa fp : Option Nat) (be fi : Nat → Option Nat) : Prop := pz50 (pz_gt g) (pz_gN g) (n / 4) (ay_ln ah) (ay_ln pl) (ay_ln kd) (ay_ln vl) (ay_ln sw) (ay_ln ln) (ay_ln ro) (ay_ln rm) (ay_ln un) (ay_ln rt) (ay_ln rom) (ay_ln rk) (ay_ln fa) (ay_ln fp) be fi
noncomputable def pz_x54 (g n : Nat) (ah pl sw ln ro rm un rt rom rk fa fp : Option Nat) (be fi : Nat → Option Nat) : Prop := ay_ln pl = pz_at (pz_gt g) (pz_gN g) (pz_p (pz_cF g n)) ∧ ay_ln ah = ay_ln pl ∧ pz_xd g n sw ln ro rm un rt rom rk fa fp be fi
noncomputable def pz_x55 (g n : Nat) (ah pl sw ln ro rm un rt rom rk fa fp : Option Nat) (be fi : Nat → Option Nat) : Prop := ay_ln pl = pz_at (pz_gt g) (pz_gN g) (pz_p (pz_cF g n)) ∧ ay_ln ah = ay_ln pl + 1 ∧ ay_ln pl < pz_gN g ∧ pz_xd g n sw ln ro rm un rt rom rk fa fp be fi
noncomputable def pz_x56 (g n : Nat) (ah pl kd sw ln ro rm un rt rom rk fa fp : Option Nat) (be fi : Nat → Option Nat) : Prop := ay_ln pl = pz_at (pz_gt g) (pz_gN g) (pz_p (pz_cF g n)) ∧ ay_ln kd = 1 ∧ pz_kd (pz_gt g) (pz_gN g) (pz_p (pz_cF g n)) = 1 ∧ pz_e pz_lt (pz_gt g) (pz_gN g) (ay_ln ah) = pz_nx (pz_gt g) (pz_gN g) (pz_p (pz_cF g n)) ∧ pz_xd g n sw ln ro rm un rt rom rk fa fp be fi
noncomputable def pz_x57 (g n : Nat) (ah pl kd sw ln ro rm un rt rom rk fa fp : Option Nat) (be fi : Nat → Option Nat) : Prop := ay_ln pl = pz_at (pz_gt g) (pz_gN g) (pz_p (pz_cF g n)) ∧ ay_ln ah = ay_ln pl + 1 ∧ ay_ln pl < pz_gN g ∧ ay_ln kd = 2 ∧ pz_kd (pz_gt g) (pz_gN g) (pz_p (pz_cF g n)) = 2 ∧ pz_xd g n sw ln ro rm un rt rom rk fa fp be fi
noncomputable def pz_x58 (g n : Nat) (ah pl kd vl sw ln ro rm un rt rom rk fa fp : Option Nat) (be fi : Nat → Option Nat) : Prop := ay_ln pl = pz_at (pz_gt g) (pz_gN g) (pz_p (pz_cF g n)) ∧ ay_ln kd = 2 ∧ pz_kd (pz_gt g) (pz_gN g) (pz_p (pz_cF g n)) = 2 ∧ pz_e pz_dg (pz_gt g) (pz_gN g) (ay_ln ah) = pz_nx (pz_gt g) (pz_gN g) (pz_p (pz_cF g n)) ∧ pz_n (pz_gt g) (pz_gN g) (ay_ln ah) (pz_m (ay_ln vl)) = pz_vl (pz_gt g) (pz_gN g) (pz_p (pz_cF g n)) ∧ pz_xd g n sw ln ro rm un rt rom rk fa fp be fi
noncomputable def pz_x59 (g n : Nat) (ah pl kd vl sw ln ro rm un rt rom rk fa fp : Option Nat) (be fi : Nat → Option Nat) : Prop := ay_ln pl = pz_at (pz_gt g) (pz_gN g) (pz_p (pz_cF g n)) ∧ ay_ln kd = 2 ∧ pz_kd (pz_gt g) (pz_gN g) (pz_p (pz_cF g n)) = 2 ∧ pz_e pz_dg (pz_gt g) (pz_gN g) (ay_ln ah + 1) = pz_nx (pz_gt g) (pz_gN g) (pz_p (pz_cF g n)) ∧ pz_n (pz_gt g) (pz_gN g) (ay_ln ah + 1) (pz_m (ay_ln vl)) = pz_vl (pz_gt g) (pz_gN g) (pz_p (pz_cF g n)) ∧ pz_xd g n sw ln ro rm un rt rom rk fa fp be fi
noncomputable def pz_x62 (g n w i : Nat) : Prop := pz_kd (pz_gt g) (pz_gN g) (pz_p (pz_cF g n)) = 1 ∧ pz_nx (pz_gt g) (pz_gN g) (pz_p (pz_cF g n)) - pz_at (pz_gt g) (pz_gN g) (pz_p (pz_cF g n)) = (pz_ws.getD (w / 4 - 1000) []).length ∧ ∀ j, j < i / 4 → pz_b (pz_gt g) (pz_at (pz_gt g) (pz_gN g) (pz_p (pz_cF g n)) + j) = (pz_ws.getD (w / 4 - 1000) []).getD j 0
noncomputable def pz_x65 (g n k : Nat) (pl fa : Option Nat) : Prop := pz64 (pz_gt g) (pz_gN g) (n / 4) (k / 4) ∧ ay_ln fa = k / 4 ∧ ay_ln pl = pz_at (pz_gt g) (pz_gN g) (pz_p (pz_cF g n))
noncomputable def pz_x103 (g n m : Nat) : Prop := rx_bi (m / 4) + 1 = pz_no (pz_cF g n) + 2147483648
noncomputable def pz_x114 (g n a b i : Nat) : Prop := ∀ j x y, 2 * j < i / 4 → (pz_ls (pz_cF g n))[j]? = some (x, y) → ¬ (x = a / 4 ∧ y = b / 4) ∧ (2 * j + 1 < i / 4 → ¬ (y = a / 4 ∧ x = b / 4))
/-- within addLink: k writes are done -/
noncomputable def pz_xal (k g n a b l : Nat) (ah sw ln ro rm un rt rom rk fa fp : Option Nat) (be fi : Nat → Option Nat) : Prop := ay_ln ah = pz_nx (pz_gt g) (pz_gN g) (pz_p (pz_cF g n)) ∧ ay_ln ln = l / 4 ∧ pz7 (pz_gt g) (pz_gN g) (n / 4) 5 ∧ pz67 (pz_gt g) (pz_gN g) (n / 4) (a / 4) ∧ pz104 (pz_gt g) (pz_gN g) (n / 4) (b / 4) ∧ b / 4 ≠ a / 4 ∧ pz113 (pz_gt g) (pz_gN g) (n / 4) (a / 4) (b / 4) ∧ pz_xd g n sw ln ro rm un rt rom rk fa fp be fi
  ∧ be (2 * (l / 4)) = some (4 * (a / 4)) ∧ (2 ≤ k → fi (2 * (l / 4)) = some (4 * (b / 4))) ∧ (3 ≤ k → be (2 * (l / 4) + 1) = some (4 * (b / 4))) ∧ (4 ≤ k → fi (2 * (l / 4) + 1) = some (4 * (a / 4)))

/-! The text grows and is cut -/
/-- one byte behind -/
def pz_ap (g c : Nat) : Nat := 4 * ((pz_gt g % 4294967296 ^ pz_gN g + c % 4294967296 * 4294967296 ^ pz_gN g) * 1024 + (pz_gN g + 1)) + 1
/-- byte k of a word -/
noncomputable def pz_by (a k : Nat) : Nat := match rx_f_shr a (24 - 8 * k) with
  | some r => rx_f_i2b r
  | none => 0
noncomputable def pz_apk (a g : Nat) : Nat → Nat
  | 0 => g
  | k + 1 => pz_ap (pz_apk a g k) (pz_by a k)
def pz_sel (a b c d e k : Nat) : Nat := if k < 4 then a else if k < 8 then b else if k < 12 then c else if k < 16 then d else e
noncomputable def pz_a20 (a b c d e g : Nat) : Nat → Nat
  | 0 => g
  | k + 1 => pz_ap (pz_a20 a b c d e g k) (pz_by (pz_sel a b c d e k) (k % 4))
theorem pz_a20_eq (a b c d e g : Nat) : pz_apk e (pz_apk d (pz_apk c (pz_apk b (pz_apk a g 4) 4) 4) 4) 4 = pz_a20 a b c d e g 20 := rfl
def pz_cut (g n : Nat) : Nat := 4 * (pz_gt g * 1024 + n) + 1
theorem pz_b_low {t m N j : Nat} (h : j < N) : pz_b (t % 4294967296 ^ N + m * 4294967296 ^ N) j = pz_b t j := by
  unfold pz_b
  obtain ⟨d, rfl⟩ := Nat.exists_eq_add_of_lt h
  rw [show j + d + 1 = j + (d + 1) by omega, Nat.pow_add, Nat.mod_mul, show t % 4294967296 ^ j + 4294967296 ^ j * (t / 4294967296 ^ j % 4294967296 ^ (d + 1)) + m * (4294967296 ^ j * 4294967296 ^ (d + 1)) = t % 4294967296 ^ j + 4294967296 ^ j * (t / 4294967296 ^ j % 4294967296 ^ (d + 1) + m * 4294967296 ^ (d + 1)) by rw [Nat.mul_add, ← Nat.add_assoc, Nat.mul_left_comm], Nat.add_mul_div_left _ _ (Nat.pow_pos (by decide)), Nat.div_eq_of_lt (Nat.mod_lt _ (Nat.pow_pos (by decide))), Nat.zero_add, Nat.pow_succ, ← Nat.mul_assoc, Nat.add_mul_mod_self_right, Nat.mul_comm (4294967296 ^ d), Nat.mod_mul_right_mod]
theorem pz_b_top {t m N : Nat} (h : m < 4294967296) : pz_b (t % 4294967296 ^ N + m * 4294967296 ^ N) N = m := by
  unfold pz_b
  rw [Nat.mul_comm m, Nat.add_mul_div_left _ _ (Nat.pow_pos (by decide)), Nat.div_eq_of_lt (Nat.mod_lt _ (Nat.pow_pos (by decide))), Nat.zero_add, Nat.mod_eq_of_lt h]
theorem pz_ap_g {g c : Nat} (h : pz_gN g < 1000) : pz_gN (pz_ap g c) = pz_gN g + 1 ∧ pz_gt (pz_ap g c) = pz_gt g % 4294967296 ^ pz_gN g + c % 4294967296 * 4294967296 ^ pz_gN g := by
  unfold pz_ap pz_gN pz_gt at *
  generalize g / 4 / 1024 % 4294967296 ^ (g / 4 % 1024) + c % 4294967296 * 4294967296 ^ (g / 4 % 1024) = x
  omega
theorem pz_cut_g {g n : Nat} (h : n < 1000) : pz_gN (pz_cut g n) = n ∧ pz_gt (pz_cut g n) = pz_gt g := by
  unfold pz_cut pz_gN pz_gt
  omega
/-- the tape with one byte more -/
theorem pz_ap_tp {g c N : Nat} {tp tp' : Nat → Option Nat} (hN : pz_gN g = N) (hl : N < 800) (hc : c < 4294967296) (h : ∀ j, j < pz_gN g → tp j = some (4 * pz_b (pz_gt g) j)) (h' : ∀ j, tp' j = if j = N then some (4 * c) else tp j) : ∀ j, j < pz_gN (pz_ap g c) → tp' j = some (4 * pz_b (pz_gt (pz_ap g c)) j) := by
  obtain ⟨e1, e2⟩ := pz_ap_g (g := g) (c := c) (by omega)
  intro j hj
  rw [e1] at hj
  rw [e2, h', Nat.mod_eq_of_lt hc]
  by_cases hjn : j = N
  · rw [if_pos hjn, hjn, ← hN, pz_b_top hc]
  · rw [if_neg hjn, pz_b_low (by omega)]
    exact h j (by omega)
theorem pz_apk_N {a g : Nat} : ∀ {k : Nat}, pz_gN g + k ≤ 1000 → pz_gN (pz_apk a g k) = pz_gN g + k
  | 0, _ => rfl
  | k + 1, h => by
    have := pz_apk_N (a := a) (g := g) (k := k) (by omega)
    show pz_gN (pz_ap _ _) = _
    rw [(pz_ap_g (by omega)).1, this]
    omega
theorem pz_a20_N {a b c d e g : Nat} : ∀ {k : Nat}, pz_gN g + k ≤ 1000 → pz_gN (pz_a20 a b c d e g k) = pz_gN g + k
  | 0, _ => rfl
  | k + 1, h => by
    have := pz_a20_N (a := a) (b := b) (c := c) (d := d) (e := e) (g := g) (k := k) (by omega)
    show pz_gN (pz_ap _ _) = _
    rw [(pz_ap_g (by omega)).1, this]
    omega
/-- what is kept of a word that is fed: 34, 36 -/
noncomputable def pz_x34 (g a h g' : Nat) : Prop := pz_gN g ≤ 796 ∧ ∃ k, k ≤ 4 ∧ (h / 4 + 2147483648) % 4294967296 + 8 * k = 2147483672 ∧ g' = pz_apk (a / 4) g k
noncomputable def pz_x36 (g a h g' : Nat) : Prop := pz_gN g ≤ 796 ∧ ∃ k, k < 4 ∧ (h / 4 + 2147483648) % 4294967296 + 8 * k = 2147483672 ∧ g' = pz_apk (a / 4) g (k + 1)
noncomputable def pz_x35 (g : Nat) (sz : Option Nat) (tp : Nat → Option Nat) : Prop := ay_ln sz + 1 = pz_gN g ∧ pz_gN g ≤ 800 ∧ ∀ j, j < pz_gN g → tp j = some (4 * pz_b (pz_gt g) j)
noncomputable def pz_x126 (g v : Nat) : Prop := ∃ n, pz_md (pz_cf (pz_gt g) (pz_gN g) n) = 20 ∧ pz_no (pz_cf (pz_gt g) (pz_gN g) n) = v / 4
theorem ay_typ {w : ax_W} {hp : rx_H} {q g j v : Nat} {t : ax_Y} (hT : ax_HT w hp) (hw : w.1[q]? = some g) (ht : (w.2.1[g]?).bind (fun z => ax_at z.2.2 j) = some t) (hv : ay_at hp q j = some v) : ax_ok w t v := by
  obtain ⟨k, n, l, f, b1, b2, b3, b4⟩ := hT.2 q g hw
  rw [ay_eq b2] at hv
  obtain ⟨t', c1, c2⟩ := b4 j v hv
  rw [b1] at ht
  replace ht : ax_at l j = some t := ht
  rw [c1] at ht
  cases ht
  exact c2
/-- a new symbol for a cell's content, and what is said of it -/
theorem pz_pf {w : ax_W} {X : ax_X} {ρ : Nat → Nat} {hp : rx_H} {n q j v a i : Nat} {ty : List ax_Y} {t : ax_Y} {e : List (Nat × Nat × Nat) × List (Nat × Nat × Nat) × List ax_N} {xf : List ax_N} (hE : ax_EO w X ρ (n, ty, e) hp) (sa : ax_sc n a = true) (si : ax_sc n i = true) (ea : ax_vl ρ a = 4 * (q + 2) + 2) (ei : ax_vl ρ i = 4 * j) (hv : ay_at hp q j = some v) (ht : ax_ok w t v) (hs : xf.all (fun x => x.2.all (ax_sc (n + 1))) = true) (h : ∀ ρ' : Nat → Nat, (∀ k, k < n → ρ' k = ρ k) → ρ' n = v → ∀ x ∈ xf, ax_XF X x.1 (x.2.map (ax_vl ρ')) hp) : ∃ ρ' : Nat → Nat, (∀ k, k < n → ρ' k = ρ k) ∧ ax_EO w X ρ' (n + 1, t :: ty, [(a, i, 4 * n + 3)], [], xf) hp := by
  obtain ⟨ρ', h1, h2, h3⟩ := ax_new_ok hE ht
  have hn : ρ' n = v := ax_ev_sy (n := n + 1) (k := n) h3
  have hc : ∃ (k m : Nat) (f : List Nat), rx_hg hp q = some (k, m, f) ∧ f[j]? = some v := by
    unfold ay_at at hv
    cases hg : rx_hg hp q with
    | none => rw [hg] at hv; cases hv
    | some z => obtain ⟨k, m, f⟩ := z; rw [hg] at hv; exact ⟨k, m, f, rfl, hv⟩
  obtain ⟨k, m, f, hg, hv⟩ := hc
  refine ⟨ρ', h1, ⟨h2.1, h2.2.1, fun g hg' => ?_, fun d hd => (by cases hd), fun x hx => ⟨x.2.map (ax_vl ρ'), ax_evs_vl (List.all_eq_true.mp hs x hx), h ρ' h1 hn x hx⟩⟩⟩
  rw [List.mem_singleton.mp hg']
  have e1 : ax_ev (n + 1) ρ' a = some (4 * (q + 2) + 2) := ax_ev_mono (Nat.le_succ n) h1 (by rw [ax_ev_vl sa, ea])
  have e2 : ax_ev (n + 1) ρ' i = some (4 * j) := ax_ev_mono (Nat.le_succ n) h1 (by rw [ax_ev_vl si, ei])
  have d1 : (4 * (q + 2) + 2) / 4 - 2 = q := by omega
  have d2 : 4 * j / 4 = j := by omega
  exact ⟨_, _, v, k, m, f, e1, e2, h3, by omega, by omega, by omega, by rw [d1]; exact hg, by rw [d2]; exact hv⟩
/-- min, charAt, i2b -/
theorem pz_g41 {w : ax_W} {X : ax_X} {ρ : Nat → Nat} {E : ax_E} {hp : rx_H} (hE : ax_EO w X ρ E hp) (x y z : Nat) (h : (1041, [x, y, z, 0, 0]) ∈ E.2.2.2.2) : ax_vl ρ z = if (ax_vl ρ y / 4 + 2147483648) % 4294967296 < (ax_vl ρ x / 4 + 2147483648) % 4294967296 then ax_vl ρ y else ax_vl ρ x := by
  have h1 := (ax_XF_bi (X := X) (o := 41) (by decide)).mp (ax_gx hE _ h)
  replace h1 : ax_BI 41 [ax_vl ρ x, ax_vl ρ y, ax_vl ρ z, 0, 0] := h1
  rcases h1 with ⟨-, h1⟩ | ⟨h1, -⟩ | ⟨h1, -⟩
  · replace h1 : (bif Nat.beq (rx_tk (ax_vl ρ x)) 0 && Nat.beq (rx_tk (ax_vl ρ y)) 0 then some ((bif Nat.blt (rx_bi (rx_pl (ax_vl ρ y))) (rx_bi (rx_pl (ax_vl ρ x))) then ax_vl ρ y else ax_vl ρ x) :: []) else none) = some [ax_vl ρ z] := h1
    obtain ⟨-, h1⟩ := rx_cond h1
    have h1 := (List.cons.inj (Option.some.inj h1)).1
    rw [← h1]
    have e1 : rx_bi (rx_pl (ax_vl ρ y)) = (ax_vl ρ y / 4 + 2147483648) % 4294967296 := ax_bi_def _
    have e2 : rx_bi (rx_pl (ax_vl ρ x)) = (ax_vl ρ x / 4 + 2147483648) % 4294967296 := ax_bi_def _
    rw [e1, e2]
    by_cases hl : (ax_vl ρ y / 4 + 2147483648) % 4294967296 < (ax_vl ρ x / 4 + 2147483648) % 4294967296
    · rw [if_pos hl, rx_blt.mpr hl, cond_true]
    · rw [if_neg hl, Bool.eq_false_iff.mpr (fun z => hl (rx_blt.mp z)), cond_false]
  · omega
  · omega
theorem pz_g42 {w : ax_W} {X : ax_X} {ρ : Nat → Nat} {E : ax_E} {hp : rx_H} (hE : ax_EO w X ρ E hp) (x y z : Nat) (h : (1042, [x, y, z, 0, 0]) ∈ E.2.2.2.2) : rx_primC (ax_vl ρ y) [ax_vl ρ x] = some [ax_vl ρ z] := by
  have h1 := (ax_XF_bi (X := X) (o := 42) (by decide)).mp (ax_gx hE _ h)
  replace h1 : ax_BI 42 [ax_vl ρ x, ax_vl ρ y, ax_vl ρ z, 0, 0] := h1
  rcases h1 with ⟨h1, -⟩ | ⟨-, h1⟩ | ⟨h1, -⟩
  · omega
  · exact h1
  · omega
theorem pz_chr {v i z : Nat} {l : List Nat} (hw : rx_wrd v = some l) (h : rx_primC i [v] = some [z]) : l[i / 4]? = some (z / 4) := by
  unfold rx_primC at h
  dsimp only at h
  rw [hw] at h
  dsimp only at h
  obtain ⟨-, h⟩ := rx_cond h
  cases e : rx_nth l (rx_pl i) with
  | none => rw [e] at h; cases h
  | some c =>
    rw [e] at h
    have h := (List.cons.inj (Option.some.inj h)).1
    rw [rx_nth_eq] at e
    rw [← h, show l[i / 4]? = some c from e]
    exact congrArg some (show c = 4 * c / 4 by omega)
theorem pz_g43 {w : ax_W} {X : ax_X} {ρ : Nat → Nat} {E : ax_E} {hp : rx_H} (hE : ax_EO w X ρ E hp) (x z : Nat) (h : (1043, [x, 0, z, 0, 0]) ∈ E.2.2.2.2) : ax_vl ρ z = 4 * rx_f_i2b (ax_vl ρ x / 4) := by
  have h1 := (ax_XF_bi (X := X) (o := 43) (by decide)).mp (ax_gx hE _ h)
  replace h1 : ax_BI 43 [ax_vl ρ x, 0, ax_vl ρ z, 0, 0] := h1
  rcases h1 with ⟨h1, -⟩ | ⟨h1, -⟩ | ⟨-, -, h1⟩
  · omega
  · omega
  · exact h1
theorem pz_by_eq {a k r : Nat} (h : rx_f_shr a (24 - 8 * k) = some r) : pz_by a k = rx_f_i2b r := by
  unfold pz_by
  rw [h]
theorem pz_ap_4 (g c : Nat) : 4 * (pz_ap g c / 4) + 1 = pz_ap g c := by
  unfold pz_ap
  omega
theorem pz_cut_4 (g n : Nat) : 4 * (pz_cut g n / 4) + 1 = pz_cut g n := by
  unfold pz_cut
  omega
theorem pz_i2b_lt (x : Nat) : rx_f_i2b x < 4294967296 := ax_i32_lt _
theorem pz_run_le {P : Nat → Bool} {t N : Nat} : ∀ (f p : Nat), p ≤ N → pz_run P t N f p ≤ N
  | 0, p, h => h
  | f + 1, p, h => by
    show (if p < N ∧ P (pz_b t p) = true then pz_run P t N f (p + 1) else p) ≤ N
    by_cases h1 : p < N ∧ P (pz_b t p) = true
    · rw [if_pos h1]; exact pz_run_le f (p + 1) (by omega)
    · rw [if_neg h1]; exact h
theorem pz_wd_le {t N p : Nat} (h : pz_kd t N p = 1) : pz_at t N p < N ∧ pz_nx t N p ≤ N := by
  by_cases h0 : N ≤ pz_at t N p
  · rw [(pz_kd_end h0).1] at h; cases h
  · have hlt : pz_at t N p < N := by omega
    refine ⟨hlt, ?_⟩
    cases h1 : pz_lt (pz_b t (pz_at t N p)) with
    | true => rw [(pz_kd_wd hlt h1).2]; exact pz_run_le _ _ (by omega)
    | false =>
      cases h2 : pz_dg (pz_b t (pz_at t N p)) with
      | true => rw [(pz_kd_nm hlt h2).1] at h; cases h
      | false => rw [(pz_kd_sg hlt h1 h2).2]; omega
theorem pz_getD {l : List Nat} {i z : Nat} (h : l[i]? = some z) : l.getD i 0 = z := by
  rw [List.getD_eq_getElem?_getD, h]
  rfl
theorem pz_ps {x : Nat} (lo hi : Nat) (h1 : x < 4294967296) (h2 : 2147483648 + lo ≤ (x + 2147483648) % 4294967296) (h3 : (x + 2147483648) % 4294967296 ≤ 2147483648 + hi) (h4 : hi < 2147483648) : lo ≤ x ∧ x ≤ hi := by omega
theorem pz_sm {x y z : Nat} (hx : x < 1073741824) (hy : y < 1073741824) (hz : z < 4294967296) (h : (x + 2147483648) % 4294967296 + (y + 2147483648) % 4294967296 = (z + 2147483648) % 4294967296 + 2147483648) : z = x + y := by omega

theorem pz_gj {w : ax_W} {X : ax_X} {ρ : Nat → Nat} {E : ax_E} {hp : rx_H} (hE : ax_EO w X ρ E hp) (k : Nat) (hk : k < E.1) (h : E.2.1[E.1 - 1 - k]? = some (1, 0, 0)) : ρ k % 4 = 1 := by
  obtain ⟨c, h1⟩ := ax_gj hE k hk h
  omega
theorem pz_gi {w : ax_W} {X : ax_X} {ρ : Nat → Nat} {E : ax_E} {hp : rx_H} (hE : ax_EO w X ρ E hp) (k lo hi : Nat) (hk : k < E.1) (h : E.2.1[E.1 - 1 - k]? = some (0, lo, hi)) : ρ k % 4 = 0 ∧ ρ k / 4 < 4294967296 ∧ lo ≤ (ρ k / 4 + 2147483648) % 4294967296 ∧ (ρ k / 4 + 2147483648) % 4294967296 ≤ hi := by
  obtain ⟨c, h1, h2, h3, h4⟩ := ax_gi hE k lo hi hk h
  rw [ax_bi_def] at h3 h4
  have e : ρ k / 4 = c := by omega
  rw [e]
  exact ⟨by omega, h2, h3, h4⟩
theorem pz_gs {w : ax_W} {X : ax_X} {ρ : Nat → Nat} {E : ax_E} {hp : rx_H} (hE : ax_EO w X ρ E hp) (p q r : Nat) (h : (1015, [p, q, r, 0]) ∈ E.2.2.2.2) : (ax_vl ρ p / 4 + 2147483648) % 4294967296 + (ax_vl ρ q / 4 + 2147483648) % 4294967296 = (ax_vl ρ r / 4 + 2147483648) % 4294967296 + 2147483648 := by
  obtain ⟨a, b, c, ha, hb, hc, la, lb, lc, hs⟩ := ax_gs hE p q r h
  rw [ax_bi_def, ax_bi_def, ax_bi_def] at hs
  rw [ha, hb, hc, Nat.mul_div_cancel_left a (by decide), Nat.mul_div_cancel_left b (by decide), Nat.mul_div_cancel_left c (by decide)]
  exact hs
theorem pz_gc {w : ax_W} {X : ax_X} {ρ : Nat → Nat} {E : ax_E} {hp : rx_H} (hE : ax_EO w X ρ E hp) (k p q : Nat) (hk : k < 6) (h : (1020 + k, [p, q]) ∈ E.2.2.2.2) : ax_cnd k ((ax_vl ρ p / 4 + 2147483648) % 4294967296) ((ax_vl ρ q / 4 + 2147483648) % 4294967296) := by
  have := ax_gc hE k p q hk h
  rw [ax_bi_def, ax_bi_def] at this
  exact this
theorem pz_go {w : ax_W} {X : ax_X} {ρ : Nat → Nat} {E : ax_E} {hp : rx_H} (hE : ax_EO w X ρ E hp) (p q : Nat) (h : (1030, [p, q]) ∈ E.2.2.2.2) : ax_vl ρ p < ax_vl ρ q := by
  rcases (ax_XF_bi (o := 30) (by decide)).mp (ax_gx hE _ h) with ⟨k, h1, h2, -⟩ | ⟨-, h3⟩
  · omega
  · exact h3
theorem pz_pn1 {w : ax_W} {X : ax_X} {ρ : Nat → Nat} {hp : rx_H} {n K : Nat} {ty : List ax_Y} {e : List (Nat × Nat × Nat) × List (Nat × Nat × Nat) × List ax_N} {xf : List ax_N} (hE : ax_EO w X ρ (n, ty, e) hp) (hs : xf.all (fun x => x.2.all (ax_sc (n + 1))) = true) (h : ∀ ρ' : Nat → Nat, (∀ k, k < n → ρ' k = ρ k) → ρ' n = 4 * K + 1 → ∀ x ∈ xf, ax_XF X x.1 (x.2.map (ax_vl ρ')) hp) : ∃ ρ' : Nat → Nat, (∀ k, k < n → ρ' k = ρ k) ∧ ax_EO w X ρ' (n + 1, (1, 0, 0) :: ty, [], [], xf) hp := ax_pn (K := K) hE hs h
theorem pz_pn2 {w : ax_W} {X : ax_X} {ρ : Nat → Nat} {hp : rx_H} {n K L : Nat} {ty : List ax_Y} {e : List (Nat × Nat × Nat) × List (Nat × Nat × Nat) × List ax_N} {xf : List ax_N} (hE : ax_EO w X ρ (n, ty, e) hp) (hs : xf.all (fun x => x.2.all (ax_sc (n + 2))) = true) (h : ∀ ρ' : Nat → Nat, (∀ k, k < n → ρ' k = ρ k) → ρ' n = 4 * K + 1 → ρ' (n + 1) = 4 * L + 1 → ∀ x ∈ xf, ax_XF X x.1 (x.2.map (ax_vl ρ')) hp) : ∃ ρ' : Nat → Nat, (∀ k, k < n → ρ' k = ρ k) ∧ ax_EO w X ρ' (n + 2, (1, 0, 0) :: (1, 0, 0) :: ty, [], [], xf) hp := by
  obtain ⟨ρ1, h1, h2⟩ := ax_pn (K := K) (xf := []) hE rfl (fun _ _ _ x hx => by cases hx)
  have hK : ∃ ρ1 : Nat → Nat, (∀ k, k < n → ρ1 k = ρ k) ∧ ρ1 n = 4 * K + 1 ∧ ax_EO w X ρ1 (n + 1, (1, 0, 0) :: ty, [], [], []) hp := by
    obtain ⟨r, a1, a2, a3⟩ := ax_new_ok hE (t := (1, 0, 0)) (x := 4 * K + 1) (Or.inr (Or.inl ⟨rfl, by omega⟩))
    exact ⟨r, a1, ax_ev_sy (n := n + 1) (k := n) a3, ⟨a2.1, a2.2.1, fun f hf => (by cases hf), fun d hd => (by cases hd), fun x hx => (by cases hx)⟩⟩
  obtain ⟨r, a1, a2, a3⟩ := hK
  obtain ⟨r', b1, b2⟩ := ax_pn (K := L) (xf := xf) a3 hs (fun r' c1 c2 => h r' (fun k hk => (c1 k (by omega)).trans (a1 k hk)) ((c1 n (by omega)).trans a2) c2)
  exact ⟨r', fun k hk => (b1 k (by omega)).trans (a1 k hk), b2⟩
theorem pz_41 (K : Nat) : (4 * K + 1) / 4 = K := by omega
theorem pz_53 {g n K ah : Nat} {sw ln ro rm un rt rom rk fa fp oa : Option Nat} {be fi : Nat → Option Nat} (hn : n / 4 = K) (ho : ay_ln oa = ah) (h : pz53 (pz_gt g) (pz_gN g) K ah (ay_ln sw) (ay_ln ln) (ay_ln ro) (ay_ln rm) (ay_ln un) (ay_ln rt) (ay_ln rom) (ay_ln rk) (ay_ln fa) (ay_ln fp) be fi) : pz_x53 g n oa sw ln ro rm un rt rom rk fa fp be fi := by
  subst hn ho
  exact ⟨by rw [h.1], h.2⟩
end
section
/-! What the reference's named facts say -/
def pz_tok (k : Nat) : Nat := if k = 0 then 0 else if k = 1 then 2 else if k = 2 then 3 else if k = 3 then 1 else 4
theorem pz_tok_c (k : Nat) : (k = 0 ∧ pz_tok k = 0) ∨ (k = 1 ∧ pz_tok k = 2) ∨ (k = 2 ∧ pz_tok k = 3) ∨ (k = 3 ∧ pz_tok k = 1) ∨ (4 ≤ k ∧ pz_tok k = 4) := by
  unfold pz_tok
  by_cases h0 : k = 0
  · exact Or.inl ⟨h0, by rw [if_pos h0]⟩
  · by_cases h1 : k = 1
    · exact Or.inr (Or.inl ⟨h1, by rw [if_neg h0, if_pos h1]⟩)
    · by_cases h2 : k = 2
      · exact Or.inr (Or.inr (Or.inl ⟨h2, by rw [if_neg h0, if_neg h1, if_pos h2]⟩))
      · by_cases h3 : k = 3
        · exact Or.inr (Or.inr (Or.inr (Or.inl ⟨h3, by rw [if_neg h0, if_neg h1, if_neg h2, if_pos h3]⟩)))
        · exact Or.inr (Or.inr (Or.inr (Or.inr ⟨by omega, by rw [if_neg h0, if_neg h1, if_neg h2, if_neg h3]⟩)))
/-- the reference's number of a word -/
def pz_wix (t N p : Nat) : Nat := if pz_wd t N p 0 then 0 else if pz_wd t N p 1 then 1 else if pz_wd t N p 2 then 2 else if pz_wd t N p 4 then 3 else if pz_wd t N p 3 then 4 else if pz_wd t N p 5 then 5 else if pz_wd t N p 6 then 6 else if pz_wd t N p 7 then 7 else 4294967295
def pz_pm (k : Nat) : Nat := if k = 3 then 4 else if k = 4 then 3 else k
theorem pz_wd_inv {t N p k : Nat} (h : pz_wd t N p k = true) : pz_nx t N p - pz_at t N p = (pz_ws.getD k []).length ∧ ∀ i, i < (pz_ws.getD k []).length → pz_b t (pz_at t N p + i) = (pz_ws.getD k []).getD i 0 := by
  unfold pz_wd pz_is at h
  have h2 := (Bool.and_eq_true_iff.mp h).2
  refine ⟨eq_of_beq (Bool.and_eq_true_iff.mp h2).1, fun i hi => ?_⟩
  exact eq_of_beq (List.all_eq_true.mp (Bool.and_eq_true_iff.mp h2).2 i (List.mem_range.mpr hi))
theorem pz_leq {l m : List Nat} (h : l.length = m.length) (h2 : ∀ k, k < l.length → l.getD k 0 = m.getD k 0) : l = m := by
  apply List.ext_getElem h
  intro k hk hk'
  have e2 := h2 k hk
  rw [List.getD_eq_getElem?_getD, List.getElem?_eq_getElem hk, List.getD_eq_getElem?_getD, List.getElem?_eq_getElem hk'] at e2
  exact e2
theorem pz_wd_ex {t N p i j : Nat} (hi : i < 8) (hj : j < 8) (h1 : pz_wd t N p i = true) (h2 : pz_wd t N p j = true) : i = j := by
  obtain ⟨a1, a2⟩ := pz_wd_inv h1
  obtain ⟨b1, b2⟩ := pz_wd_inv h2
  have e : pz_ws.getD i [] = pz_ws.getD j [] := pz_leq (a1.symm.trans b1) (fun k hk => (a2 k hk).symm.trans (b2 k (by rw [← b1, a1]; exact hk)))
  have key : ∀ i, i < 8 → ∀ j, j < 8 → pz_ws.getD i [] = pz_ws.getD j [] → i = j := by decide
  exact key i hi j hj e
theorem pz_wix_1 {t N p k : Nat} (hk : k < 8) (h : pz_wix t N p = k) : pz_wd t N p (pz_pm k) = true := by
  unfold pz_wix at h
  match k, hk with
  | 0, _ =>
    by_cases c0 : pz_wd t N p 0 = true
    · exact c0
    rw [if_neg c0] at h
    by_cases c1 : pz_wd t N p 1 = true
    · rw [if_pos c1] at h; exact absurd h (by decide)
    rw [if_neg c1] at h
    by_cases c2 : pz_wd t N p 2 = true
    · rw [if_pos c2] at h; exact absurd h (by decide)
    rw [if_neg c2] at h
    by_cases c3 : pz_wd t N p 4 = true
    · rw [if_pos c3] at h; exact absurd h (by decide)
    rw [if_neg c3] at h
    by_cases c4 : pz_wd t N p 3 = true
    · rw [if_pos c4] at h; exact absurd h (by decide)
    rw [if_neg c4] at h
    by_cases c5 : pz_wd t N p 5 = true
    · rw [if_pos c5] at h; exact absurd h (by decide)
    rw [if_neg c5] at h
    by_cases c6 : pz_wd t N p 6 = true
    · rw [if_pos c6] at h; exact absurd h (by decide)
    rw [if_neg c6] at h
    by_cases c7 : pz_wd t N p 7 = true
    · rw [if_pos c7] at h; exact absurd h (by decide)
    rw [if_neg c7] at h
    exact absurd h (by decide)
  | 1, _ =>
    by_cases c0 : pz_wd t N p 0 = true
    · rw [if_pos c0] at h; exact absurd h (by decide)
    rw [if_neg c0] at h
    by_cases c1 : pz_wd t N p 1 = true
    · exact c1
    rw [if_neg c1] at h
    by_cases c2 : pz_wd t N p 2 = true
    · rw [if_pos c2] at h; exact absurd h (by decide)
    rw [if_neg c2] at h
    by_cases c3 : pz_wd t N p 4 = true
    · rw [if_pos c3] at h; exact absurd h (by decide)
    rw [if_neg c3] at h
    by_cases c4 : pz_wd t N p 3 = true
    · rw [if_pos c4] at h; exact absurd h (by decide)
    rw [if_neg c4] at h
    by_cases c5 : pz_wd t N p 5 = true
    · rw [if_pos c5] at h; exact absurd h (by decide)
    rw [if_neg c5] at h
    by_cases c6 : pz_wd t N p 6 = true
    · rw [if_pos c6] at h; exact absurd h (by decide)
    rw [if_neg c6] at h
    by_cases c7 : pz_wd t N p 7 = true
    · rw [if_pos c7] at h; exact absurd h (by decide)
    rw [if_neg c7] at h
    exact absurd h (by decide)
  | 2, _ =>
    by_cases c0 : pz_wd t N p 0 = true
    · rw [if_pos c0] at h; exact absurd h (by decide)
    rw [if_neg c0] at h
    by_cases c1 : pz_wd t N p 1 = true
    · rw [if_pos c1] at h; exact absurd h (by decide)
    rw [if_neg c1] at h
    by_cases c2 : pz_wd t N p 2 = true
    · exact c2
    rw [if_neg c2] at h
    by_cases c3 : pz_wd t N p 4 = true
    · rw [if_pos c3] at h; exact absurd h (by decide)
    rw [if_neg c3] at h
    by_cases c4 : pz_wd t N p 3 = true
    · rw [if_pos c4] at h; exact absurd h (by decide)
    rw [if_neg c4] at h
    by_cases c5 : pz_wd t N p 5 = true
    · rw [if_pos c5] at h; exact absurd h (by decide)
    rw [if_neg c5] at h
    by_cases c6 : pz_wd t N p 6 = true
    · rw [if_pos c6] at h; exact absurd h (by decide)
    rw [if_neg c6] at h
    by_cases c7 : pz_wd t N p 7 = true
    · rw [if_pos c7] at h; exact absurd h (by decide)
    rw [if_neg c7] at h
    exact absurd h (by decide)
  | 3, _ =>
    by_cases c0 : pz_wd t N p 0 = true
    · rw [if_pos c0] at h; exact absurd h (by decide)
    rw [if_neg c0] at h
    by_cases c1 : pz_wd t N p 1 = true
    · rw [if_pos c1] at h; exact absurd h (by decide)
    rw [if_neg c1] at h
    by_cases c2 : pz_wd t N p 2 = true
    · rw [if_pos c2] at h; exact absurd h (by decide)
    rw [if_neg c2] at h
    by_cases c3 : pz_wd t N p 4 = true
    · exact c3
    rw [if_neg c3] at h
    by_cases c4 : pz_wd t N p 3 = true
    · rw [if_pos c4] at h; exact absurd h (by decide)
    rw [if_neg c4] at h
    by_cases c5 : pz_wd t N p 5 = true
    · rw [if_pos c5] at h; exact absurd h (by decide)
    rw [if_neg c5] at h
    by_cases c6 : pz_wd t N p 6 = true
    · rw [if_pos c6] at h; exact absurd h (by decide)
    rw [if_neg c6] at h
    by_cases c7 : pz_wd t N p 7 = true
    · rw [if_pos c7] at h; exact absurd h (by decide)
    rw [if_neg c7] at h
    exact absurd h (by decide)
  | 4, _ =>
    by_cases c0 : pz_wd t N p 0 = true
    · rw [if_pos c0] at h; exact absurd h (by decide)
    rw [if_neg c0] at h
    by_cases c1 : pz_wd t N p 1 = true
    · rw [if_pos c1] at h; exact absurd h (by decide)
    rw [if_neg c1] at h
    by_cases c2 : pz_wd t N p 2 = true
    · rw [if_pos c2] at h; exact absurd h (by decide)
    rw [if_neg c2] at h
    by_cases c3 : pz_wd t N p 4 = true
    · rw [if_pos c3] at h; exact absurd h (by decide)
    rw [if_neg c3] at h
    by_cases c4 : pz_wd t N p 3 = true
    · exact c4
    rw [if_neg c4] at h
    by_cases c5 : pz_wd t N p 5 = true
    · rw [if_pos c5] at h; exact absurd h (by decide)
    rw [if_neg c5] at h
    by_cases c6 : pz_wd t N p 6 = true
    · rw [if_pos c6] at h; exact absurd h (by decide)
    rw [if_neg c6] at h
    by_cases c7 : pz_wd t N p 7 = true
    · rw [if_pos c7] at h; exact absurd h (by decide)
    rw [if_neg c7] at h
    exact absurd h (by decide)
  | 5, _ =>
    by_cases c0 : pz_wd t N p 0 = true
    · rw [if_pos c0] at h; exact absurd h (by decide)
    rw [if_neg c0] at h
    by_cases c1 : pz_wd t N p 1 = true
    · rw [if_pos c1] at h; exact absurd h (by decide)
    rw [if_neg c1] at h
    by_cases c2 : pz_wd t N p 2 = true
    · rw [if_pos c2] at h; exact absurd h (by decide)
    rw [if_neg c2] at h
    by_cases c3 : pz_wd t N p 4 = true
    · rw [if_pos c3] at h; exact absurd h (by decide)
    rw [if_neg c3] at h
    by_cases c4 : pz_wd t N p 3 = true
    · rw [if_pos c4] at h; exact absurd h (by decide)
    rw [if_neg c4] at h
    by_cases c5 : pz_wd t N p 5 = true
    · exact c5
    rw [if_neg c5] at h
    by_cases c6 : pz_wd t N p 6 = true
    · rw [if_pos c6] at h; exact absurd h (by decide)
    rw [if_neg c6] at h
    by_cases c7 : pz_wd t N p 7 = true
    · rw [if_pos c7] at h; exact absurd h (by decide)
    rw [if_neg c7] at h
    exact absurd h (by decide)
  | 6, _ =>
    by_cases c0 : pz_wd t N p 0 = true
    · rw [if_pos c0] at h; exact absurd h (by decide)
    rw [if_neg c0] at h
    by_cases c1 : pz_wd t N p 1 = true
    · rw [if_pos c1] at h; exact absurd h (by decide)
    rw [if_neg c1] at h
    by_cases c2 : pz_wd t N p 2 = true
    · rw [if_pos c2] at h; exact absurd h (by decide)
    rw [if_neg c2] at h
    by_cases c3 : pz_wd t N p 4 = true
    · rw [if_pos c3] at h; exact absurd h (by decide)
    rw [if_neg c3] at h
    by_cases c4 : pz_wd t N p 3 = true
    · rw [if_pos c4] at h; exact absurd h (by decide)
    rw [if_neg c4] at h
    by_cases c5 : pz_wd t N p 5 = true
    · rw [if_pos c5] at h; exact absurd h (by decide)
    rw [if_neg c5] at h
    by_cases c6 : pz_wd t N p 6 = true
    · exact c6
    rw [if_neg c6] at h
    by_cases c7 : pz_wd t N p 7 = true
    · rw [if_pos c7] at h; exact absurd h (by decide)
    rw [if_neg c7] at h
    exact absurd h (by decide)
  | 7, _ =>
    by_cases c0 : pz_wd t N p 0 = true
    · rw [if_pos c0] at h; exact absurd h (by decide)
    rw [if_neg c0] at h
    by_cases c1 : pz_wd t N p 1 = true
    · rw [if_pos c1] at h; exact absurd h (by decide)
    rw [if_neg c1] at h
    by_cases c2 : pz_wd t N p 2 = true
    · rw [if_pos c2] at h; exact absurd h (by decide)
    rw [if_neg c2] at h
    by_cases c3 : pz_wd t N p 4 = true
    · rw [if_pos c3] at h; exact absurd h (by decide)
    rw [if_neg c3] at h
    by_cases c4 : pz_wd t N p 3 = true
    · rw [if_pos c4] at h; exact absurd h (by decide)
    rw [if_neg c4] at h
    by_cases c5 : pz_wd t N p 5 = true
    · rw [if_pos c5] at h; exact absurd h (by decide)
    rw [if_neg c5] at h
    by_cases c6 : pz_wd t N p 6 = true
    · rw [if_pos c6] at h; exact absurd h (by decide)
    rw [if_neg c6] at h
    by_cases c7 : pz_wd t N p 7 = true
    · exact c7
    rw [if_neg c7] at h
    exact absurd h (by decide)
theorem pz_wix_0 {t N p : Nat} (h : ∀ j, j < 8 → pz_wd t N p (pz_pm j) = false) : pz_wix t N p = 4294967295 := by
  have h0 : pz_wd t N p 0 = false := h 0 (by decide)
  have h1 : pz_wd t N p 1 = false := h 1 (by decide)
  have h2 : pz_wd t N p 2 = false := h 2 (by decide)
  have h4 : pz_wd t N p 4 = false := h 3 (by decide)
  have h3 : pz_wd t N p 3 = false := h 4 (by decide)
  have h5 : pz_wd t N p 5 = false := h 5 (by decide)
  have h6 : pz_wd t N p 6 = false := h 6 (by decide)
  have h7 : pz_wd t N p 7 = false := h 7 (by decide)
  unfold pz_wix
  rw [h0, h1, h2, h3, h4, h5, h6, h7]
  rfl
theorem pz_pm_lt : ∀ k, k < 8 → pz_pm k < 8 := by decide
theorem pz_pm_in : ∀ i, i < 8 → ∀ j, j < 8 → pz_pm i = pz_pm j → i = j := by decide
theorem pz_wix_3 {t N p k : Nat} (hk : k < 8) (h : pz_wd t N p (pz_pm k) = true) : pz_wix t N p = k := by
  have no : ∀ j, j < 8 → j ≠ k → pz_wd t N p (pz_pm j) = false := fun j hj hne => by
    cases hb : pz_wd t N p (pz_pm j) with
    | false => rfl
    | true => exact absurd (pz_pm_in j hj k hk (pz_wd_ex (pz_pm_lt j hj) (pz_pm_lt k hk) hb h)) hne
  match k, hk with
  | 0, _ =>
    have h1 : pz_wd t N p 1 = false := no 1 (by decide) (by decide)
    have h2 : pz_wd t N p 2 = false := no 2 (by decide) (by decide)
    have h4 : pz_wd t N p 4 = false := no 3 (by decide) (by decide)
    have h3 : pz_wd t N p 3 = false := no 4 (by decide) (by decide)
    have h5 : pz_wd t N p 5 = false := no 5 (by decide) (by decide)
    have h6 : pz_wd t N p 6 = false := no 6 (by decide) (by decide)
    have h7 : pz_wd t N p 7 = false := no 7 (by decide) (by decide)
    replace h : pz_wd t N p 0 = true := h
    unfold pz_wix
    rw [h]
    rfl
  | 1, _ =>
    have h0 : pz_wd t N p 0 = false := no 0 (by decide) (by decide)
    have h2 : pz_wd t N p 2 = false := no 2 (by decide) (by decide)
    have h4 : pz_wd t N p 4 = false := no 3 (by decide) (by decide)
    have h3 : pz_wd t N p 3 = false := no 4 (by decide) (by decide)
    have h5 : pz_wd t N p 5 = false := no 5 (by decide) (by decide)
    have h6 : pz_wd t N p 6 = false := no 6 (by decide) (by decide)
    have h7 : pz_wd t N p 7 = false := no 7 (by decide) (by decide)
    replace h : pz_wd t N p 1 = true := h
    unfold pz_wix
    rw [h0, h]
    rfl
  | 2, _ =>
    have h0 : pz_wd t N p 0 = false := no 0 (by decide) (by decide)
    have h1 : pz_wd t N p 1 = false := no 1 (by decide) (by decide)
    have h4 : pz_wd t N p 4 = false := no 3 (by decide) (by decide)
    have h3 : pz_wd t N p 3 = false := no 4 (by decide) (by decide)
    have h5 : pz_wd t N p 5 = false := no 5 (by decide) (by decide)
    have h6 : pz_wd t N p 6 = false := no 6 (by decide) (by decide)
    have h7 : pz_wd t N p 7 = false := no 7 (by decide) (by decide)
    replace h : pz_wd t N p 2 = true := h
    unfold pz_wix
    rw [h0, h1, h]
    rfl
  | 3, _ =>
    have h0 : pz_wd t N p 0 = false := no 0 (by decide) (by decide)
    have h1 : pz_wd t N p 1 = false := no 1 (by decide) (by decide)
    have h2 : pz_wd t N p 2 = false := no 2 (by decide) (by decide)
    have h3 : pz_wd t N p 3 = false := no 4 (by decide) (by decide)
    have h5 : pz_wd t N p 5 = false := no 5 (by decide) (by decide)
    have h6 : pz_wd t N p 6 = false := no 6 (by decide) (by decide)
    have h7 : pz_wd t N p 7 = false := no 7 (by decide) (by decide)
    replace h : pz_wd t N p 4 = true := h
    unfold pz_wix
    rw [h0, h1, h2, h]
    rfl
  | 4, _ =>
    have h0 : pz_wd t N p 0 = false := no 0 (by decide) (by decide)
    have h1 : pz_wd t N p 1 = false := no 1 (by decide) (by decide)
    have h2 : pz_wd t N p 2 = false := no 2 (by decide) (by decide)
    have h4 : pz_wd t N p 4 = false := no 3 (by decide) (by decide)
    have h5 : pz_wd t N p 5 = false := no 5 (by decide) (by decide)
    have h6 : pz_wd t N p 6 = false := no 6 (by decide) (by decide)
    have h7 : pz_wd t N p 7 = false := no 7 (by decide) (by decide)
    replace h : pz_wd t N p 3 = true := h
    unfold pz_wix
    rw [h0, h1, h2, h4, h]
    rfl
  | 5, _ =>
    have h0 : pz_wd t N p 0 = false := no 0 (by decide) (by decide)
    have h1 : pz_wd t N p 1 = false := no 1 (by decide) (by decide)
    have h2 : pz_wd t N p 2 = false := no 2 (by decide) (by decide)
    have h4 : pz_wd t N p 4 = false := no 3 (by decide) (by decide)
    have h3 : pz_wd t N p 3 = false := no 4 (by decide) (by decide)
    have h6 : pz_wd t N p 6 = false := no 6 (by decide) (by decide)
    have h7 : pz_wd t N p 7 = false := no 7 (by decide) (by decide)
    replace h : pz_wd t N p 5 = true := h
    unfold pz_wix
    rw [h0, h1, h2, h4, h3, h]
    rfl
  | 6, _ =>
    have h0 : pz_wd t N p 0 = false := no 0 (by decide) (by decide)
    have h1 : pz_wd t N p 1 = false := no 1 (by decide) (by decide)
    have h2 : pz_wd t N p 2 = false := no 2 (by decide) (by decide)
    have h4 : pz_wd t N p 4 = false := no 3 (by decide) (by decide)
    have h3 : pz_wd t N p 3 = false := no 4 (by decide) (by decide)
    have h5 : pz_wd t N p 5 = false := no 5 (by decide) (by decide)
    have h7 : pz_wd t N p 7 = false := no 7 (by decide) (by decide)
    replace h : pz_wd t N p 6 = true := h
    unfold pz_wix
    rw [h0, h1, h2, h4, h3, h5, h]
    rfl
  | 7, _ =>
    have h0 : pz_wd t N p 0 = false := no 0 (by decide) (by decide)
    have h1 : pz_wd t N p 1 = false := no 1 (by decide) (by decide)
    have h2 : pz_wd t N p 2 = false := no 2 (by decide) (by decide)
    have h4 : pz_wd t N p 4 = false := no 3 (by decide) (by decide)
    have h3 : pz_wd t N p 3 = false := no 4 (by decide) (by decide)
    have h5 : pz_wd t N p 5 = false := no 5 (by decide) (by decide)
    have h6 : pz_wd t N p 6 = false := no 6 (by decide) (by decide)
    replace h : pz_wd t N p 7 = true := h
    unfold pz_wix
    rw [h0, h1, h2, h4, h3, h5, h6, h]
    rfl
theorem pz_wix_2 {t N p k : Nat} (hk : k < 8) (h : pz_wix t N p ≠ k) : pz_wd t N p (pz_pm k) = false := by
  cases hb : pz_wd t N p (pz_pm k) with
  | false => rfl
  | true => exact absurd (pz_wix_3 hk hb) h
theorem pz_wd_no {t N p k : Nat} (h : pz_kd t N p ≠ 1) : pz_wd t N p k = false := pz_is_no (Or.inl h)
/-- a sign -/
theorem pz_kd4 {t N p : Nat} (h : 4 ≤ pz_kd t N p) : pz_at t N p < N ∧ pz_b t (pz_at t N p) = pz_kd t N p := by
  by_cases h0 : N ≤ pz_at t N p
  · rw [(pz_kd_end h0).1] at h; omega
  · have hlt : pz_at t N p < N := by omega
    refine ⟨hlt, ?_⟩
    cases h1 : pz_lt (pz_b t (pz_at t N p)) with
    | true => rw [(pz_kd_wd hlt h1).1] at h; omega
    | false =>
      cases h2 : pz_dg (pz_b t (pz_at t N p)) with
      | true => rw [(pz_kd_nm hlt h2).1] at h; omega
      | false =>
        have e := (pz_kd_sg hlt h1 h2).1
        cases h3 : pz_sg (pz_b t (pz_at t N p)) with
        | true => rw [h3, if_pos rfl] at e; exact e.symm
        | false => rw [h3, if_neg (by decide)] at e; rw [e] at h; omega
theorem pz_kd2 {t N p : Nat} (h : pz_kd t N p = 2) : pz_nx t N p = pz_e pz_dg t N (pz_at t N p) ∧ pz_vl t N p = pz_n t N (pz_at t N p) 0 := by
  refine ⟨?_, rfl⟩
  by_cases h0 : N ≤ pz_at t N p
  · rw [(pz_kd_end h0).1] at h; cases h
  · have hlt : pz_at t N p < N := by omega
    cases h1 : pz_lt (pz_b t (pz_at t N p)) with
    | true => rw [(pz_kd_wd hlt h1).1] at h; cases h
    | false =>
      cases h2 : pz_dg (pz_b t (pz_at t N p)) with
      | true => unfold pz_nx; rw [if_neg h0, h1, if_neg (by decide), if_pos h2]
      | false =>
        have e := (pz_kd_sg hlt h1 h2).1
        cases h3 : pz_sg (pz_b t (pz_at t N p)) with
        | true =>
          rw [h3, if_pos rfl] at e
          rw [e] at h
          rw [h] at h3
          cases h3
        | false => rw [h3, if_neg (by decide)] at e; rw [e] at h; cases h
theorem pz_kd1 {t N p : Nat} (h : pz_kd t N p = 1) : pz_nx t N p = pz_e pz_lt t N (pz_at t N p) := by
  by_cases h0 : N ≤ pz_at t N p
  · rw [(pz_kd_end h0).1] at h; cases h
  · have hlt : pz_at t N p < N := by omega
    cases h1 : pz_lt (pz_b t (pz_at t N p)) with
    | true => rw [(pz_kd_wd hlt h1).2, ← pz_e_on hlt h1]
    | false =>
      cases h2 : pz_dg (pz_b t (pz_at t N p)) with
      | true => rw [(pz_kd_nm hlt h2).1] at h; cases h
      | false =>
        have e := (pz_kd_sg hlt h1 h2).1
        cases h3 : pz_sg (pz_b t (pz_at t N p)) with
        | true =>
          rw [h3, if_pos rfl] at e
          rw [e] at h
          rw [h] at h3
          cases h3
        | false => rw [h3, if_neg (by decide)] at e; rw [e] at h; cases h
/-- the links, by channels -/
def pz_be (b : Nat) (en : Nat → Option Nat) (j : Nat) : Option Nat := en (40 * b + j)
def pz_fi (b : Nat) (en : Nat → Option Nat) (j : Nat) : Option Nat := en (40 * b + (if j % 2 = 0 then j + 1 else j - 1))
noncomputable def pz_y152 (b g n : Nat) (sw ln ro rm un rt rom rk fa fp : Option Nat) (en : Nat → Option Nat) : Prop := pz_dt (pz_cF g n) (ay_ln sw) (ay_ln ln) (ay_ln ro) (ay_ln rm) (ay_ln un) (ay_ln rt) (ay_ln rom) (ay_ln rk) (ay_ln fa) (ay_ln fp) (pz_be b en) (pz_fi b en)
noncomputable def pz_y151 (g n : Nat) (nx ta tk nu wd : Option Nat) : Prop := ay_ln nx = pz_nx (pz_gt g) (pz_gN g) (pz_p (pz_cF g n)) ∧ ay_ln ta = pz_at (pz_gt g) (pz_gN g) (pz_p (pz_cF g n)) ∧ ay_ln tk = pz_tok (pz_kd (pz_gt g) (pz_gN g) (pz_p (pz_cF g n))) ∧ (pz_kd (pz_gt g) (pz_gN g) (pz_p (pz_cF g n)) = 2 → pz_m (ay_ln nu) = pz_vl (pz_gt g) (pz_gN g) (pz_p (pz_cF g n))) ∧ (pz_kd (pz_gt g) (pz_gN g) (pz_p (pz_cF g n)) = 1 → ay_ln wd = pz_wix (pz_gt g) (pz_gN g) (pz_p (pz_cF g n)))
theorem pz_m50 {b g n : Nat} {nx ta tk nu wd sw ln ro rm un rt rom rk fa fp : Option Nat} {en : Nat → Option Nat} (h1 : pz_y151 g n nx ta tk nu wd) (h2 : pz_y152 b g n sw ln ro rm un rt rom rk fa fp en) : pz50 (pz_gt g) (pz_gN g) (n / 4) (ay_ln nx) (ay_ln ta) (pz_kd (pz_gt g) (pz_gN g) (pz_p (pz_cF g n))) (ay_ln nu) (ay_ln sw) (ay_ln ln) (ay_ln ro) (ay_ln rm) (ay_ln un) (ay_ln rt) (ay_ln rom) (ay_ln rk) (ay_ln fa) (ay_ln fp) (pz_be b en) (pz_fi b en) := ⟨h1.1, h1.2.1, rfl, h1.2.2.2.1, h2⟩
noncomputable def pz_y158 (g n : Nat) (nx nu : Option Nat) : Prop := pz_e pz_dg (pz_gt g) (pz_gN g) (ay_ln nx) = pz_nx (pz_gt g) (pz_gN g) (pz_p (pz_cF g n)) ∧ pz_n (pz_gt g) (pz_gN g) (ay_ln nx) (pz_m (ay_ln nu)) = pz_vl (pz_gt g) (pz_gN g) (pz_p (pz_cF g n))
noncomputable def pz_y159 (g n : Nat) (nx nu : Option Nat) : Prop := pz_e pz_dg (pz_gt g) (pz_gN g) (ay_ln nx + 1) = pz_nx (pz_gt g) (pz_gN g) (pz_p (pz_cF g n)) ∧ pz_n (pz_gt g) (pz_gN g) (ay_ln nx + 1) (pz_m (ay_ln nu)) = pz_vl (pz_gt g) (pz_gN g) (pz_p (pz_cF g n))
noncomputable def pz_y135 (g : Nat) (tp : Nat → Option Nat) : Prop := pz_gN g ≤ 800 ∧ ∀ j, j < pz_gN g → tp j = some (4 * pz_b (pz_gt g) j)
noncomputable def pz_y134 (g p q u v w k r : Nat) : Prop := pz_gN g ≤ 780 ∧ k / 4 ≤ 20 ∧ r = pz_a20 (p / 4) (q / 4) (u / 4) (v / 4) (w / 4) g (k / 4)
noncomputable def pz_y136 (g p q u v w k r : Nat) : Prop := pz_gN g ≤ 780 ∧ k / 4 < 20 ∧ r = pz_a20 (p / 4) (q / 4) (u / 4) (v / 4) (w / 4) g (k / 4 + 1)
noncomputable def pz_y162 (g n w v : Nat) : Prop := (v / 4 = 4294967295 ∧ ∀ j, j < w / 4 → pz_wd (pz_gt g) (pz_gN g) (pz_p (pz_cF g n)) (pz_pm j) = false) ∨ (v / 4 < w / 4 ∧ w / 4 ≤ 8 ∧ pz_wd (pz_gt g) (pz_gN g) (pz_p (pz_cF g n)) (pz_pm (v / 4)) = true)
theorem pz_y162_8 {g n v : Nat} (h : pz_y162 g n 32 v) : v / 4 = pz_wix (pz_gt g) (pz_gN g) (pz_p (pz_cF g n)) := by
  rcases h with ⟨h1, h2⟩ | ⟨h1, -, h2⟩
  · rw [h1, pz_wix_0 (fun j hj => h2 j hj)]
  · exact (pz_wix_3 h1 h2).symm
noncomputable def pz_y165 (g n k : Nat) (ta fo : Option Nat) : Prop := pz64 (pz_gt g) (pz_gN g) (n / 4) (k / 4) ∧ ay_ln fo = k / 4 ∧ ay_ln ta = pz_at (pz_gt g) (pz_gN g) (pz_p (pz_cF g n))
def pz_y180 (g n s u : Nat) : Prop := pz90 (pz_gt g) (pz_gN g) (n / 4) (s / 4) ∧ 1 ≤ s / 4 ∧ (u / 4 = 1 → pz7 (pz_gt g) (pz_gN g) (n / 4) 8) ∧ (u / 4 = 0 → pz7 (pz_gt g) (pz_gN g) (n / 4) 9 ∧ pz_strip (s / 4) = s / 4)
def pz_y181 (g n : Nat) : Prop := pz7 (pz_gt g) (pz_gN g) (n / 4) 2 ∨ (pz7 (pz_gt g) (pz_gN g) (n / 4) 9 ∧ pz90 (pz_gt g) (pz_gN g) (n / 4) 1 ∧ pz94 (pz_gt g) (pz_gN g) (n / 4))
/-- the stack that lies in open -/
def pz_os (op : Nat → Option Nat) : Nat → Nat
  | 0 => 1
  | k + 1 => if op k = some 4036 then 2 * pz_os op k else if op k = some 4032 then 2 * pz_os op k + 1 else pz_os op k
noncomputable def pz_y196 (s : Nat) (od : Option Nat) (op : Nat → Option Nat) : Prop := pz_os op (ay_ln od) = s / 4 ∧ ∀ j, j + 1 < ay_ln od → op j = some 4032 → op (j + 1) = some 4032 ∨ op (j + 1) = some 4036
theorem pz_os_1 {op : Nat → Option Nat} : ∀ k, 1 ≤ pz_os op k
  | 0 => Nat.le_refl 1
  | k + 1 => by
    have := pz_os_1 (op := op) k
    show 1 ≤ (if op k = some 4036 then 2 * pz_os op k else if op k = some 4032 then 2 * pz_os op k + 1 else pz_os op k)
    split
    · omega
    · split <;> omega
theorem pz_os_same {op op' : Nat → Option Nat} : ∀ k, (∀ j, j < k → op' j = op j) → pz_os op' k = pz_os op k
  | 0, _ => rfl
  | k + 1, h => by
    have := pz_os_same k (fun j hj => h j (by omega))
    show (if op' k = some 4036 then 2 * pz_os op' k else if op' k = some 4032 then 2 * pz_os op' k + 1 else pz_os op' k) = _
    rw [h k (by omega), this]
    rfl
theorem pz_os_O {op : Nat → Option Nat} {k : Nat} (h : op k = some 4036) : pz_os op (k + 1) = 2 * pz_os op k := if_pos h
theorem pz_os_M {op : Nat → Option Nat} {k : Nat} (h : op k = some 4032) : pz_os op (k + 1) = 2 * pz_os op k + 1 := (if_neg (by rw [h]; decide)).trans (if_pos h)
theorem pz_os_B {op : Nat → Option Nat} {k : Nat} (h1 : op k ≠ some 4036) (h2 : op k ≠ some 4032) : pz_os op (k + 1) = pz_os op k := (if_neg h1).trans (if_neg h2)
theorem pz_os_ev {op : Nat → Option Nat} : ∀ k, (∀ j, j + 1 < k → op j = some 4032 → op (j + 1) = some 4032 ∨ op (j + 1) = some 4036) → (∀ j, j + 1 = k → op j ≠ some 4032) → pz_os op k % 2 = 0 ∨ pz_os op k = 1
  | 0, _, _ => Or.inr rfl
  | k + 1, hi, ht => by
    have h2 := ht k rfl
    by_cases h1 : op k = some 4036
    · rw [pz_os_O h1]; exact Or.inl (by omega)
    · rw [pz_os_B h1 h2]
      refine pz_os_ev k (fun j hj => hi j (by omega)) (fun j hj z => ?_)
      subst hj
      rcases hi j (by omega) z with e | e
      · exact h2 e
      · exact h1 e
theorem pz_str_le : ∀ {f s : Nat}, pz_str f s ≤ s
  | 0, _ => Nat.le_refl _
  | f + 1, s => by
    show (if s % 2 = 1 ∧ 1 < s then pz_str f (s / 2) else s) ≤ s
    by_cases h1 : s % 2 = 1 ∧ 1 < s
    · rw [if_pos h1]; have := pz_str_le (f := f) (s := s / 2); omega
    · rw [if_neg h1]; exact Nat.le_refl _
theorem pz_strip_le {s : Nat} : pz_strip s ≤ s := pz_str_le
/-- one that is stripped is even or 1 -/
theorem pz_strip_ev {s : Nat} (h1 : 1 ≤ s) (h : pz_strip s = s) : s % 2 = 0 ∨ s = 1 := by
  by_cases he : s % 2 = 0
  · exact Or.inl he
  · by_cases h3 : s = 1
    · exact Or.inr h3
    · have e : s = 2 * (s / 2) + 1 := by omega
      have e2 := pz_strip_odd (s := s / 2) (by omega)
      rw [← e, h] at e2
      have := pz_strip_le (s := s / 2)
      omega
theorem pz_strip_2 {s : Nat} (h1 : 1 ≤ s) : pz_strip (pz_strip s) = pz_strip s := by
  have key : ∀ f s, 1 ≤ s → s ≤ f → pz_strip (pz_strip s) = pz_strip s := by
    intro f
    induction f with
    | zero => intro s h1 h2; omega
    | succ f ih =>
      intro s h1 h2
      by_cases he : s % 2 = 0 ∨ s = 1
      · rw [pz_strip_even he, pz_strip_even he]
      · have e : s = 2 * (s / 2) + 1 := by omega
        have e2 := pz_strip_odd (s := s / 2) (by omega)
        rw [← e] at e2
        rw [e2]
        exact ih (s / 2) (by omega) (by omega)
  exact key s s h1 (Nat.le_refl _)
theorem pz_dp_0 {s : Nat} (h : pz_dp s = 0) : s ≤ 1 := by
  by_cases hs : s ≤ 1
  · exact hs
  · have := pz_dp_push (s := s / 2) (x := s) (by omega) (by omega)
    omega
theorem pz_dp_1 {s : Nat} (h : 1 ≤ pz_dp s) : 1 < s := by
  by_cases hs : 1 < s
  · exact hs
  · have : s = 0 ∨ s = 1 := by omega
    rcases this with rfl | rfl <;> exact absurd h (by decide)
def pz_y215 (g n a e i : Nat) : Prop := ∀ j x y, j < i / 4 → (pz_ls (pz_cF g n))[j]? = some (x, y) → ¬ (x = a / 4 ∧ y = e / 4) ∧ ¬ (y = a / 4 ∧ x = e / 4)
/-- within readLink: k ends are written -/
noncomputable def pz_yal (k b g n a e l : Nat) (sw ln ro rm un rt rom rk fa fp : Option Nat) (en : Nat → Option Nat) : Prop := ay_ln ln = l / 4 ∧ pz7 (pz_gt g) (pz_gN g) (n / 4) 5 ∧ pz67 (pz_gt g) (pz_gN g) (n / 4) (a / 4) ∧ pz104 (pz_gt g) (pz_gN g) (n / 4) (e / 4) ∧ e / 4 ≠ a / 4 ∧ pz113 (pz_gt g) (pz_gN g) (n / 4) (a / 4) (e / 4) ∧ pz_y152 b g n sw ln ro rm un rt rom rk fa fp en ∧ en (40 * b + 2 * (l / 4)) = some (4 * (a / 4)) ∧ (2 ≤ k → en (40 * b + 2 * (l / 4) + 1) = some (4 * (e / 4)))
theorem pz_y152_en {b g n l i v : Nat} {sw ln ro rm un rt rom rk fa fp : Option Nat} {en en' : Nat → Option Nat} (h : pz_y152 b g n sw ln ro rm un rt rom rk fa fp en) (hl : ay_ln ln = l) (hi : 40 * b + 2 * l ≤ i) (he : ∀ j, en' j = if j = i then some v else en j) : pz_y152 b g n sw ln ro rm un rt rom rk fa fp en' := by
  refine pz_dt_x h (fun j hj => ?_) (fun j hj => ?_)
  · show en' (40 * b + j) = en (40 * b + j)
    rw [he, if_neg (by omega)]
  · show en' (40 * b + (if j % 2 = 0 then j + 1 else j - 1)) = en (40 * b + (if j % 2 = 0 then j + 1 else j - 1))
    rw [he, if_neg (by split <;> omega)]
theorem pz_and3 : ∀ k, k < 20 → rx_f_and k 3 = some (k % 4) := by decide +kernel
theorem pz_l153 {g n K : Nat} {nx : Option Nat} (hn : n / 4 = K) (h : ay_ln nx = pz_p (pz_cf (pz_gt g) (pz_gN g) K)) : pz_at (pz_gt g) (pz_gN g) (ay_ln nx) = pz_at (pz_gt g) (pz_gN g) (pz_p (pz_cF g n)) := by
  subst hn
  rw [h]
theorem pz_l152 {b g n K : Nat} {sw ln ro rm un rt rom rk fa fp : Option Nat} {en : Nat → Option Nat} (hn : n / 4 = K) (h : pz_dt (pz_cf (pz_gt g) (pz_gN g) K) (ay_ln sw) (ay_ln ln) (ay_ln ro) (ay_ln rm) (ay_ln un) (ay_ln rt) (ay_ln rom) (ay_ln rk) (ay_ln fa) (ay_ln fp) (pz_be b en) (pz_fi b en)) : pz_y152 b g n sw ln ro rm un rt rom rk fa fp en := by
  subst hn
  exact h
theorem pz_l197 {g n K s : Nat} (hn : n / 4 = K) (h : pz90 (pz_gt g) (pz_gN g) K s) : pz90 (pz_gt g) (pz_gN g) (n / 4) s := by
  subst hn
  exact h
theorem pz_bin {c : Nat} (h : c % 4 = 0) (h1 : 1003 ≤ c / 4) (h2 : c / 4 ≤ 1007) : some c ≠ some 4036 ∧ some c ≠ some 4032 := ⟨fun z => by have := Option.some.inj z; omega, fun z => by have := Option.some.inj z; omega⟩
theorem pz_jn2 {b g n i a e x y : Nat} {sw ln ro rm un rt rom rk fa fp : Option Nat} {en : Nat → Option Nat} (h : pz_y152 b g n sw ln ro rm un rt rom rk fa fp en) (hl : i < ay_ln ln) (hx : en (40 * b + 2 * i) = some x) (hy : en (40 * b + 2 * i + 1) = some y) (hc : (x / 4 = a ∧ y / 4 = e) ∨ (x / 4 = e ∧ y / 4 = a)) : pz_jn (pz_ls (pz_cF g n)) a e = true := by
  have hln : ay_ln ln = (pz_ls (pz_cF g n)).length := h.2.1
  obtain ⟨⟨u, v⟩, hz⟩ : ∃ z, (pz_ls (pz_cF g n))[i]? = some z := ⟨_, List.getElem?_eq_getElem (by omega)⟩
  obtain ⟨l1, -, l3, -⟩ := h.2.2.2.2.2.2.2.2.2.2 i u v hz
  replace l1 : en (40 * b + 2 * i) = some (4 * u) := l1
  replace l3 : en (40 * b + 2 * i + 1) = some (4 * v) := l3
  rw [hx] at l1
  rw [hy] at l3
  have l1 := Option.some.inj l1
  have l3 := Option.some.inj l3
  refine pz_jn_yes hz ?_
  omega
theorem pz_jn3 {b g n i a e x y : Nat} {sw ln ro rm un rt rom rk fa fp : Option Nat} {en : Nat → Option Nat} (h : pz_y152 b g n sw ln ro rm un rt rom rk fa fp en) (hx : en (40 * b + 2 * i) = some x) (hy : en (40 * b + 2 * i + 1) = some y) (hc : ¬ ((x / 4 = a ∧ y / 4 = e) ∨ (x / 4 = e ∧ y / 4 = a))) {u v : Nat} (hz : (pz_ls (pz_cF g n))[i]? = some (u, v)) : ¬ (u = a ∧ v = e) ∧ ¬ (v = a ∧ u = e) := by
  obtain ⟨l1, -, l3, -⟩ := h.2.2.2.2.2.2.2.2.2.2 i u v hz
  replace l1 : en (40 * b + 2 * i) = some (4 * u) := l1
  replace l3 : en (40 * b + 2 * i + 1) = some (4 * v) := l3
  rw [hx] at l1
  rw [hy] at l3
  have l1 := Option.some.inj l1
  have l3 := Option.some.inj l3
  omega
theorem pz_st_no {t N : Nat} {c : pz_C} (hc : pz_md c = 21 ∨ pz_no c ≤ 10) : pz_md (pz_st t N c) = 21 ∨ pz_no (pz_st t N c) ≤ 10 := by
  obtain ⟨md, p, no, ls, ⟨r, m, k⟩, u, s, o, a, b⟩ := c
  rcases hc with hc | hc
  · replace hc : md = 21 := hc
    subst hc
    exact Or.inl rfl
  replace hc : no ≤ 10 := hc
  show (fun z => pz_md z = 21 ∨ pz_no z ≤ 10) (pz_st t N (md, p, no, ls, (r, m, k), u, s, o, a, b))
  unfold pz_st
  dsimp only
  repeat' first
    | exact Or.inl rfl
    | exact Or.inr hc
    | exact Or.inr (show pz_vl t N p ≤ 10 by omega)
    | refine pz_ite (Q := fun z => pz_md z = 21 ∨ pz_no z ≤ 10) (fun _ => ?_) (fun _ => ?_)
theorem pz_no10 {t N : Nat} : ∀ n, pz_md (pz_cf t N n) = 21 ∨ pz_no (pz_cf t N n) ≤ 10
  | 0 => Or.inr (Nat.zero_le _)
  | n + 1 => pz_st_no (pz_no10 n)
theorem pz_no9 {t N n m : Nat} (h : pz7 t N n m) (hm : m ≤ 9) : pz_no (pz_cf t N n) ≤ 10 := by
  rcases pz_no10 (t := t) (N := N) n with e | e
  · exact absurd (h.symm.trans e) (by omega)
  · exact e
theorem pz_nm_le {t N : Nat} : ∀ (f p a : Nat), a ≤ 1000 → pz_nm t N f p a ≤ 1000
  | 0, _, _, h => h
  | f + 1, p, a, h => by
    show (if p < N ∧ pz_dg (pz_b t p) = true then pz_nm t N f (p + 1) (pz_m (10 * a + (pz_b t p - 48))) else a) ≤ 1000
    split
    · exact pz_nm_le f _ _ (by unfold pz_m; split <;> omega)
    · exact h
theorem pz_m_vl {t N p : Nat} : pz_m (pz_vl t N p) = pz_vl t N p := by
  have h : pz_vl t N p ≤ 1000 := pz_nm_le _ _ _ (by decide)
  unfold pz_m
  rw [if_pos h]
end
section
/-! The formula's code: what the automaton lays (the newest ahead) -/
/-- how an operation binds -/
def py_bd (c : Nat) : Nat := if c = 1003 ∨ c = 1004 then 1 else if c = 1008 ∨ c = 1009 then 0 else 2
/-- operations that bind by k or more go from the stack (its top ahead) to the code -/
def py_pop (k : Nat) : List Nat → List Nat → List Nat × List Nat
  | [], cd => ([], cd)
  | x :: st, cd => if k ≤ py_bd x then py_pop k st (x :: cd) else (x :: st, cd)
/-- minuses on top go -/
def py_neg : List Nat → List Nat → List Nat × List Nat
  | [], cd => ([], cd)
  | x :: st, cd => if x = 1008 then py_neg st (x :: cd) else (x :: st, cd)
/-- the number of a sign, of a unit -/
def py_op (k : Nat) : Nat := if k = 43 then 1003 else if k = 45 then 1004 else if k = 42 then 1005 else if k = 47 then 1006 else 1007
def py_un (t N p : Nat) : Nat := if pz_kd t N p = 2 then pz_vl t N p else if pz_wd t N p 5 then 1000 else if pz_wd t N p 6 then 1001 else 1002
/-- one token: the stack and the code -/
def py_st (t N : Nat) (c : pz_C) (x : List Nat × List Nat) : List Nat × List Nat :=
  if pz_md c = 8 then (if pz_kd t N (pz_p c) = 40 then (1009 :: x.1, x.2) else if pz_kd t N (pz_p c) = 45 then (1008 :: x.1, x.2) else py_neg x.1 (py_un t N (pz_p c) :: x.2))
  else if pz_md c = 9 then (if pz_kd t N (pz_p c) = 41 ∧ 1 < pz_s c then py_neg (py_pop 1 x.1 x.2).1.tail (py_pop 1 x.1 x.2).2
    else if pz_op (pz_kd t N (pz_p c)) then (py_op (pz_kd t N (pz_p c)) :: (py_pop (py_bd (py_op (pz_kd t N (pz_p c)))) x.1 x.2).1, (py_pop (py_bd (py_op (pz_kd t N (pz_p c)))) x.1 x.2).2)
    else py_pop 1 x.1 x.2)
  else x
def py_cx (t N : Nat) : Nat → List Nat × List Nat
  | 0 => ([], [])
  | n + 1 => py_st t N (pz_cf t N n) (py_cx t N n)
/-- the stack's number: what pz_s holds of it -/
def py_num : List Nat → Nat
  | [] => 1
  | x :: st => if x = 1009 then 2 * py_num st else if x = 1008 then 2 * py_num st + 1 else py_num st
/-- no operation stands right on a minus -/
def py_good : List Nat → Prop
  | [] => True
  | [_] => True
  | x :: y :: st => (y = 1008 → x = 1008 ∨ x = 1009) ∧ py_good (y :: st)
theorem py_num_1 : ∀ st, 1 ≤ py_num st
  | [] => Nat.le_refl 1
  | x :: st => by
    have := py_num_1 st
    show 1 ≤ (if x = 1009 then 2 * py_num st else if x = 1008 then 2 * py_num st + 1 else py_num st)
    split
    · omega
    · split <;> omega
theorem py_good_t {x : Nat} {st : List Nat} (h : py_good (x :: st)) : py_good st := by
  cases st with
  | nil => trivial
  | cons y st => exact h.2
theorem py_pop_num {k : Nat} (hk : 1 ≤ k) : ∀ (st cd : List Nat), py_num (py_pop k st cd).1 = py_num st
  | [], _ => rfl
  | x :: st, cd => by
    show py_num (if k ≤ py_bd x then py_pop k st (x :: cd) else (x :: st, cd)).1 = _
    by_cases h : k ≤ py_bd x
    · rw [if_pos h, py_pop_num hk st]
      have h9 : x ≠ 1009 := fun z => by subst z; exact absurd h (by show ¬ k ≤ 0; omega)
      have h8 : x ≠ 1008 := fun z => by subst z; exact absurd h (by show ¬ k ≤ 0; omega)
      show _ = (if x = 1009 then 2 * py_num st else if x = 1008 then 2 * py_num st + 1 else py_num st)
      rw [if_neg h9, if_neg h8]
    · rw [if_neg h]
theorem py_pop_good {k : Nat} : ∀ (st cd : List Nat), py_good st → py_good (py_pop k st cd).1
  | [], _, h => h
  | x :: st, cd, h => by
    show py_good (if k ≤ py_bd x then py_pop k st (x :: cd) else (x :: st, cd)).1
    by_cases hk : k ≤ py_bd x
    · rw [if_pos hk]; exact py_pop_good st _ (py_good_t h)
    · rw [if_neg hk]; exact h
theorem py_neg_good : ∀ (st cd : List Nat), py_good st → py_good (py_neg st cd).1
  | [], _, h => h
  | x :: st, cd, h => by
    show py_good (if x = 1008 then py_neg st (x :: cd) else (x :: st, cd)).1
    by_cases hk : x = 1008
    · rw [if_pos hk]; exact py_neg_good st _ (py_good_t h)
    · rw [if_neg hk]; exact h
/-- a good stack that has no minus on top: its number is stripped -/
theorem py_num_ev : ∀ (st : List Nat), py_good st → (∀ x, st.head? = some x → x ≠ 1008) → py_num st % 2 = 0 ∨ py_num st = 1
  | [], _, _ => Or.inr rfl
  | x :: st, h, ht => by
    have h8 : x ≠ 1008 := ht x rfl
    by_cases h9 : x = 1009
    · subst h9
      exact Or.inl (by show 2 * py_num st % 2 = 0; omega)
    · have e : py_num (x :: st) = py_num st := by
        show (if x = 1009 then 2 * py_num st else if x = 1008 then 2 * py_num st + 1 else py_num st) = _
        rw [if_neg h9, if_neg h8]
      rw [e]
      refine py_num_ev st (py_good_t h) (fun y hy z => ?_)
      cases st with
      | nil => cases hy
      | cons y' st =>
        have hy' : y' = y := Option.some.inj hy
        subst hy'
        rcases h.1 z with e | e
        · exact h8 e
        · exact h9 e
theorem py_neg_num : ∀ (st cd : List Nat), py_good st → py_num (py_neg st cd).1 = pz_strip (py_num st)
  | [], _, _ => rfl
  | x :: st, cd, h => by
    show py_num (if x = 1008 then py_neg st (x :: cd) else (x :: st, cd)).1 = _
    by_cases hk : x = 1008
    · rw [if_pos hk, py_neg_num st _ (py_good_t h)]
      subst hk
      exact (pz_strip_odd (py_num_1 st)).symm
    · rw [if_neg hk]
      exact (pz_strip_even (py_num_ev (x :: st) h (fun y hy => by have := Option.some.inj hy; omega))).symm
/-- a list as a number -/
def py_enc : List Nat → Nat
  | [] => 1
  | x :: l => py_enc l * 4096 + x
def py_dec : Nat → Nat → List Nat
  | 0, _ => []
  | f + 1, n => if n ≤ 1 then [] else (n % 4096) :: py_dec f (n / 4096)
def py_L (n : Nat) : List Nat := py_dec n n
theorem py_dec_ge : ∀ (f g n : Nat), n ≤ f → n ≤ g → py_dec f n = py_dec g n
  | 0, 0, _, _, _ => rfl
  | 0, g + 1, n, h, _ => by
    show [] = (if n ≤ 1 then [] else (n % 4096) :: py_dec g (n / 4096))
    rw [if_pos (by omega)]
  | f + 1, 0, n, _, h => by
    show (if n ≤ 1 then [] else (n % 4096) :: py_dec f (n / 4096)) = []
    rw [if_pos (by omega)]
  | f + 1, g + 1, n, h1, h2 => by
    show (if n ≤ 1 then [] else (n % 4096) :: py_dec f (n / 4096)) = (if n ≤ 1 then [] else (n % 4096) :: py_dec g (n / 4096))
    by_cases h : n ≤ 1
    · rw [if_pos h, if_pos h]
    · rw [if_neg h, if_neg h, py_dec_ge f g (n / 4096) (by omega) (by omega)]
theorem py_L_1 : py_L 1 = [] := rfl
theorem py_L_c {n x : Nat} (hn : 1 ≤ n) (hx : x < 4096) : py_L (n * 4096 + x) = x :: py_L n := by
  unfold py_L
  obtain ⟨m, hm⟩ : ∃ m, n * 4096 + x = m + 1 := ⟨n * 4096 + x - 1, by omega⟩
  rw [hm]
  show (if m + 1 ≤ 1 then [] else ((m + 1) % 4096) :: py_dec m ((m + 1) / 4096)) = _
  rw [if_neg (by omega), ← hm, show (n * 4096 + x) % 4096 = x by omega, show (n * 4096 + x) / 4096 = n by omega, py_dec_ge m n n (by omega) (Nat.le_refl _)]
theorem py_cx_s {t N n : Nat} : py_cx t N (n + 1) = py_st t N (pz_cf t N n) (py_cx t N n) := rfl
section PYN
variable {t N n : Nat} {S L : List Nat}
theorem py_sO (hm : pz7 t N n 8) (hk : pz_kd t N (pz_p (pz_cf t N n)) = 40) (h : py_cx t N n = (S, L)) : py_cx t N (n + 1) = (1009 :: S, L) := by
  rw [py_cx_s, h]
  unfold py_st
  rw [if_pos (show pz_md (pz_cf t N n) = 8 from hm), if_pos hk]
theorem py_sM (hm : pz7 t N n 8) (hk : pz_kd t N (pz_p (pz_cf t N n)) = 45) (h : py_cx t N n = (S, L)) : py_cx t N (n + 1) = (1008 :: S, L) := by
  rw [py_cx_s, h]
  unfold py_st
  rw [if_pos (show pz_md (pz_cf t N n) = 8 from hm), if_neg (by rw [hk]; decide), if_pos hk]
theorem py_sU (hm : pz7 t N n 8) (h40 : pz_kd t N (pz_p (pz_cf t N n)) ≠ 40) (h45 : pz_kd t N (pz_p (pz_cf t N n)) ≠ 45) (h : py_cx t N n = (S, L)) : py_cx t N (n + 1) = py_neg S (py_un t N (pz_p (pz_cf t N n)) :: L) := by
  rw [py_cx_s, h]
  unfold py_st
  rw [if_pos (show pz_md (pz_cf t N n) = 8 from hm), if_neg h40, if_neg h45]
theorem py_sC {s : Nat} (hm : pz7 t N n 9) (hk : pz_kd t N (pz_p (pz_cf t N n)) = 41) (hs : pz90 t N n s) (h1 : 1 < s) (h : py_pop 1 (py_cx t N n).1 (py_cx t N n).2 = (1009 :: S, L)) : py_cx t N (n + 1) = py_neg S L := by
  rw [py_cx_s]
  unfold py_st
  have e : pz_s (pz_cf t N n) = s := hs
  rw [if_neg (by rw [show pz_md (pz_cf t N n) = 9 from hm]; decide), if_pos (show pz_md (pz_cf t N n) = 9 from hm), if_pos ⟨hk, by rw [e]; exact h1⟩, h]
  rfl
theorem py_sB {k : Nat} (hm : pz7 t N n 9) (hk : pz_kd t N (pz_p (pz_cf t N n)) = k) (ho : pz_op k = true) (h : py_pop (py_bd (py_op k)) (py_cx t N n).1 (py_cx t N n).2 = (S, L)) : py_cx t N (n + 1) = (py_op k :: S, L) := by
  rw [py_cx_s]
  unfold py_st
  have h41 : k ≠ 41 := fun z => by subst z; cases ho
  rw [if_neg (by rw [show pz_md (pz_cf t N n) = 9 from hm]; decide), if_pos (show pz_md (pz_cf t N n) = 9 from hm), hk, if_neg (fun z => h41 z.1), if_pos ho, h]
theorem py_sE (hm : pz7 t N n 9) (hk : ¬ (pz_kd t N (pz_p (pz_cf t N n)) = 41 ∧ 1 < pz_s (pz_cf t N n))) (ho : pz94 t N n) (h : py_pop 1 (py_cx t N n).1 (py_cx t N n).2 = (S, L)) : py_cx t N (n + 1) = (S, L) := by
  rw [py_cx_s]
  unfold py_st
  rw [if_neg (by rw [show pz_md (pz_cf t N n) = 9 from hm]; decide), if_pos (show pz_md (pz_cf t N n) = 9 from hm), if_neg hk, if_neg (by rw [show pz_op (pz_kd t N (pz_p (pz_cf t N n))) = false from ho]; decide), h]
theorem py_s0 {m : Nat} (hm : pz7 t N n m) (h8 : m ≠ 8) (h9 : m ≠ 9) (h : py_cx t N n = (S, L)) : py_cx t N (n + 1) = (S, L) := by
  rw [py_cx_s, h]
  unfold py_st
  have e : pz_md (pz_cf t N n) = m := hm
  rw [if_neg (by omega), if_neg (by omega)]
end PYN
/-- pops, by what lies on top -/
def py_top (S : List Nat) : Nat := match S with
  | [] => 1009
  | x :: _ => x
theorem py_pop_0 {k : Nat} {S L : List Nat} (h : py_bd (py_top S) < k) (hk : 1 ≤ k) : py_pop k S L = (S, L) := by
  cases S with
  | nil => rfl
  | cons x S => show (if k ≤ py_bd x then py_pop k S (x :: L) else (x :: S, L)) = _; rw [if_neg (by replace h : py_bd x < k := h; omega)]
theorem py_pop_c {k x : Nat} {S L : List Nat} (h : k ≤ py_bd x) : py_pop k (x :: S) L = py_pop k S (x :: L) := if_pos h
theorem py_neg_0 {S L : List Nat} (h : py_top S ≠ 1008) : py_neg S L = (S, L) := by
  cases S with
  | nil => rfl
  | cons x S => show (if x = 1008 then py_neg S (x :: L) else (x :: S, L)) = _; rw [if_neg (show ¬ x = 1008 from h)]
theorem py_neg_c {S L : List Nat} : py_neg (1008 :: S) L = py_neg S (1008 :: L) := if_pos rfl
/-- a lower pop behind a higher one -/
theorem py_pop_12 : ∀ (S L : List Nat), py_pop 1 (py_pop 2 S L).1 (py_pop 2 S L).2 = py_pop 1 S L
  | [], _ => rfl
  | x :: S, L => by
    by_cases h : 2 ≤ py_bd x
    · rw [py_pop_c h, py_pop_c (show 1 ≤ py_bd x by omega)]
      exact py_pop_12 S _
    · rw [show py_pop 2 (x :: S) L = (x :: S, L) from if_neg h]
end
section
/-! Units, and how long the code is -/
theorem py_st40 {t N : Nat} {c : pz_C} (hc : pz_md c = 21 ∨ pz_un c ≤ 40) : pz_md (pz_st t N c) = 21 ∨ pz_un (pz_st t N c) ≤ 40 := by
  obtain ⟨md, p, no, ls, ⟨r, m, k⟩, u, s, o, a, b⟩ := c
  rcases hc with hc | hc
  · replace hc : md = 21 := hc
    subst hc
    exact Or.inl rfl
  replace hc : u ≤ 40 := hc
  show (fun z => pz_md z = 21 ∨ pz_un z ≤ 40) (pz_st t N (md, p, no, ls, (r, m, k), u, s, o, a, b))
  unfold pz_st
  dsimp only
  repeat' first
    | exact Or.inl rfl
    | exact Or.inr hc
    | exact Or.inr (show u + 1 ≤ 40 by omega)
    | refine pz_ite (Q := fun z => pz_md z = 21 ∨ pz_un z ≤ 40) (fun _ => ?_) (fun _ => ?_)
theorem py_un40 {t N : Nat} : ∀ n, pz_md (pz_cf t N n) = 21 ∨ pz_un (pz_cf t N n) ≤ 40
  | 0 => Or.inr (Nat.zero_le _)
  | n + 1 => py_st40 (py_un40 n)
theorem py_u40 {t N n m : Nat} (h : pz7 t N n m) (hm : m ≤ 9) : pz_un (pz_cf t N n) ≤ 40 := by
  rcases py_un40 (t := t) (N := N) n with e | e
  · exact absurd (h.symm.trans e) (by omega)
  · exact e
/-- how many units a step adds -/
theorem py_stu {t N : Nat} {c : pz_C} : pz_md (pz_st t N c) = 21 ∨ (pz_md c = 8 ∧ pz_un (pz_st t N c) = pz_un c + 1) ∨ (pz_md c ≠ 8 ∧ pz_un (pz_st t N c) = pz_un c) := by
  obtain ⟨md, p, no, ls, ⟨r, m, k⟩, u, s, o, a, b⟩ := c
  show (fun z => pz_md z = 21 ∨ (md = 8 ∧ pz_un z = u + 1) ∨ (md ≠ 8 ∧ pz_un z = u)) (pz_st t N (md, p, no, ls, (r, m, k), u, s, o, a, b))
  unfold pz_st
  dsimp only
  repeat' first
    | exact Or.inl rfl
    | exact Or.inr (Or.inl ⟨by assumption, rfl⟩)
    | exact Or.inr (Or.inr ⟨by omega, rfl⟩)
    | refine pz_ite (Q := fun z => pz_md z = 21 ∨ (md = 8 ∧ pz_un z = u + 1) ∨ (md ≠ 8 ∧ pz_un z = u)) (fun _ => ?_) (fun _ => ?_)
theorem py_u8 {t N n m : Nat} (h : pz7 t N n 8) (h2 : pz7 t N (n + 1) m) (hm : m ≤ 20) : pz_un (pz_cf t N (n + 1)) = pz_un (pz_cf t N n) + 1 := by
  rcases py_stu (t := t) (N := N) (c := pz_cf t N n) with e | ⟨-, e⟩ | ⟨e, -⟩
  · exact absurd (h2.symm.trans e) (by omega)
  · exact e
  · exact absurd h e
theorem py_u0 {t N n k m : Nat} (h : pz7 t N n k) (hk : k ≠ 8) (h2 : pz7 t N (n + 1) m) (hm : m ≤ 20) : pz_un (pz_cf t N (n + 1)) = pz_un (pz_cf t N n) := by
  rcases py_stu (t := t) (N := N) (c := pz_cf t N n) with e | ⟨e, -⟩ | ⟨-, e⟩
  · exact absurd (h2.symm.trans e) (by omega)
  · exact absurd (h.symm.trans e) hk
  · exact e
theorem py_pop_len {k : Nat} : ∀ (S L : List Nat), (py_pop k S L).1.length + (py_pop k S L).2.length = S.length + L.length
  | [], _ => rfl
  | x :: S, L => by
    by_cases h : k ≤ py_bd x
    · rw [py_pop_c h, py_pop_len S]
      show S.length + (L.length + 1) = S.length + 1 + L.length
      omega
    · rw [show py_pop k (x :: S) L = (x :: S, L) from if_neg h]
theorem py_neg_len : ∀ (S L : List Nat), (py_neg S L).1.length + (py_neg S L).2.length = S.length + L.length
  | [], _ => rfl
  | x :: S, L => by
    by_cases h : x = 1008
    · subst h
      rw [py_neg_c, py_neg_len S]
      show S.length + (L.length + 1) = S.length + 1 + L.length
      omega
    · rw [show py_neg (x :: S) L = (x :: S, L) from if_neg h]
/-- what the numbers say -/
def py_99 (r c s : Nat) : Prop := r / 4 = s / 4 * 4096 + c / 4 ∧ 1 ≤ s / 4 ∧ c / 4 < 4096
theorem py_99L {r c s : Nat} (h : py_99 r c s) : py_L (r / 4) = c / 4 :: py_L (s / 4) := by rw [h.1, py_L_c h.2.1 h.2.2]
def py_46 (t N n s l : Nat) : Prop := py_cx t N n = (py_L (s / 4), py_L (l / 4)) ∧ 1 ≤ s / 4 ∧ 1 ≤ l / 4 ∧ (py_L (s / 4)).length + (py_L (l / 4)).length ≤ 2 * pz_un (pz_cf t N n)
def py_47 (t N n s l : Nat) : Prop := py_neg (py_L (s / 4)) (py_L (l / 4)) = py_cx t N n ∧ 1 ≤ s / 4 ∧ 1 ≤ l / 4 ∧ (py_L (s / 4)).length + (py_L (l / 4)).length + 1 ≤ 2 * pz_un (pz_cf t N n)
def py_42 (t N n s l c : Nat) : Prop := py_neg (py_L (s / 4)) (c / 4 :: py_L (l / 4)) = py_cx t N n ∧ 1 ≤ s / 4 ∧ 1 ≤ l / 4 ∧ c / 4 < 4096 ∧ (py_L (s / 4)).length + (py_L (l / 4)).length + 2 ≤ 2 * pz_un (pz_cf t N n)
def py_48 (k t N n s l : Nat) : Prop := py_pop k (py_cx t N n).1 (py_cx t N n).2 = (py_L (s / 4), py_L (l / 4)) ∧ 1 ≤ s / 4 ∧ 1 ≤ l / 4 ∧ (py_L (s / 4)).length + (py_L (l / 4)).length + 1 ≤ 2 * pz_un (pz_cf t N n)
def py_44 (k s : Nat) : Prop := py_bd (py_top (py_L (s / 4))) < k ∧ py_top (py_L (s / 4)) ≠ 1008 ∧ 1 ≤ s / 4
def py_40 (l : Nat) : Prop := (py_L (l / 4)).length ≤ 79 ∧ 1 ≤ l / 4
section PYR
variable {t N n m s l s2 l2 c k : Nat}
theorem pr_s0 (h : pz7 t N n k) (h8 : k ≠ 8) (h9 : k ≠ 9) (h2 : pz7 t N (n + 1) m) (hm : m ≤ 20) (x : py_46 t N n s l) : py_46 t N (n + 1) s l :=
  ⟨py_s0 h h8 h9 x.1, x.2.1, x.2.2.1, by rw [py_u0 h h8 h2 hm]; exact x.2.2.2⟩
theorem pr_sE (h : pz7 t N n 9) (hs : pz90 t N n 1) (ho : pz94 t N n) (h2 : pz7 t N (n + 1) m) (hm : m ≤ 20) (x : py_48 1 t N n s l) : py_46 t N (n + 1) s l :=
  ⟨py_sE h (fun z => absurd z.2 (by rw [show pz_s (pz_cf t N n) = 1 from hs]; decide)) ho x.1, x.2.1, x.2.2.1, by rw [py_u0 h (by decide) h2 hm]; have := x.2.2.2; omega⟩
theorem pr_sC {S : Nat} (h : pz7 t N n 9) (hk : pz_kd t N (pz_p (pz_cf t N n)) = 41) (hs : pz90 t N n S) (h1 : 1 < S) (h2 : pz7 t N (n + 1) m) (hm : m ≤ 20) (x : py_48 1 t N n s2 l) (y : py_99 s2 4036 s) : py_47 t N (n + 1) s l := by
  have e := py_99L y
  refine ⟨(py_sC h hk hs h1 (x.1.trans (by rw [e]))).symm, y.2.1, x.2.2.1, ?_⟩
  have z := x.2.2.2
  rw [e] at z
  rw [py_u0 h (by decide) h2 hm]
  replace z : (py_L (s / 4)).length + 1 + (py_L (l / 4)).length + 1 ≤ _ := z
  omega
theorem pr_su (h : pz7 t N n 8) (h40 : pz_kd t N (pz_p (pz_cf t N n)) ≠ 40) (h45 : pz_kd t N (pz_p (pz_cf t N n)) ≠ 45) (h2 : pz7 t N (n + 1) m) (hm : m ≤ 20) (x : py_46 t N n s l) (hc : c / 4 = py_un t N (pz_p (pz_cf t N n))) (hl : c / 4 < 4096) : py_42 t N (n + 1) s l c :=
  ⟨by rw [hc]; exact (py_sU h h40 h45 x.1).symm, x.2.1, x.2.2.1, hl, by rw [py_u8 h h2 hm]; have := x.2.2.2; omega⟩
theorem pr_sv (x : py_42 t N n s l c) (y : py_99 l2 c l) : py_47 t N n s l2 := by
  have e := py_99L y
  refine ⟨by rw [e]; exact x.1, x.2.1, by rw [y.1]; have := x.2.2.1; omega, ?_⟩
  rw [e]
  show _ + ((py_L (l / 4)).length + 1) + 1 ≤ _
  have := x.2.2.2.2
  omega
theorem pr_l42 (h : pz7 t N n m) (hm : m ≤ 9) (x : py_42 t N n s l c) : py_40 l := ⟨by have := x.2.2.2.2; have := py_u40 h hm; omega, x.2.2.1⟩
theorem pr_l47 (h : pz7 t N n m) (hm : m ≤ 9) (x : py_47 t N n s l) : py_40 l := ⟨by have := x.2.2.2; have := py_u40 h hm; omega, x.2.2.1⟩
theorem pr_l48 (h : pz7 t N n m) (hm : m ≤ 9) (x : py_48 k t N n s l) : py_40 l := ⟨by have := x.2.2.2; have := py_u40 h hm; omega, x.2.2.1⟩
theorem pr_suO (h : pz7 t N n 8) (hk : pz_kd t N (pz_p (pz_cf t N n)) = 40) (h2 : pz7 t N (n + 1) m) (hm : m ≤ 20) (x : py_46 t N n s l) (y : py_99 s2 4036 s) : py_46 t N (n + 1) s2 l := by
  have e := py_99L y
  refine ⟨by rw [e]; exact py_sO h hk x.1, by rw [y.1]; have := x.2.1; omega, x.2.2.1, ?_⟩
  rw [e, py_u8 h h2 hm]
  show (py_L (s / 4)).length + 1 + _ ≤ _
  have := x.2.2.2
  omega
theorem pr_suM (h : pz7 t N n 8) (hk : pz_kd t N (pz_p (pz_cf t N n)) = 45) (h2 : pz7 t N (n + 1) m) (hm : m ≤ 20) (x : py_46 t N n s l) (y : py_99 s2 4032 s) : py_46 t N (n + 1) s2 l := by
  have e := py_99L y
  refine ⟨by rw [e]; exact py_sM h hk x.1, by rw [y.1]; have := x.2.1; omega, x.2.2.1, ?_⟩
  rw [e, py_u8 h h2 hm]
  show (py_L (s / 4)).length + 1 + _ ≤ _
  have := x.2.2.2
  omega
theorem pr_sv5 (x : py_47 t N n s2 l) (y : py_99 s2 4032 s) (z : py_99 l2 4032 l) : py_47 t N n s l2 := by
  have e := py_99L y
  have e2 := py_99L z
  obtain ⟨x1, x2, x3, x4⟩ := x
  rw [e] at x1 x4
  refine ⟨by rw [e2, ← x1]; exact py_neg_c.symm, y.2.1, by rw [z.1]; omega, ?_⟩
  rw [e2]
  show _ + ((py_L (l / 4)).length + 1) + 1 ≤ _
  replace x4 : (py_L (s / 4)).length + 1 + _ + 1 ≤ _ := x4
  omega
theorem pr_sp1 (x : py_47 t N n s l) (y : py_44 2 s) : py_48 2 t N n s l := by
  obtain ⟨x1, x2, x3, x4⟩ := x
  refine ⟨?_, x2, x3, x4⟩
  rw [← x1, py_neg_0 y.2.1]
  exact py_pop_0 y.1 (by decide)
theorem pr_sq1 (x : py_48 2 t N n s l) (y : py_44 1 s) : py_48 1 t N n s l := by
  obtain ⟨x1, x2, x3, x4⟩ := x
  refine ⟨?_, x2, x3, x4⟩
  rw [← py_pop_12, x1]
  exact py_pop_0 y.1 (by decide)
theorem pr_op {q : Nat} (hq : py_bd (py_op q) = k) (h : pz7 t N n 9) (hk : pz_kd t N (pz_p (pz_cf t N n)) = q) (ho : pz_op q = true) (h2 : pz7 t N (n + 1) m) (hm : m ≤ 20) (hc : py_op q = c / 4) (x : py_48 k t N n s l) (y : py_99 s2 c s) : py_46 t N (n + 1) s2 l := by
  have e := py_99L y
  refine ⟨by rw [e, ← hc]; exact py_sB h hk ho (by rw [hq]; exact x.1), by rw [y.1]; have := x.2.1; omega, x.2.2.1, ?_⟩
  rw [e, py_u0 h (by decide) h2 hm]
  show (py_L (s / 4)).length + 1 + _ ≤ _
  have := x.2.2.2
  omega
theorem pr_sp3 (x : py_47 t N n s2 l) (y : py_99 s2 c s) (hc : 2 ≤ py_bd (c / 4)) (z : py_44 2 s) (w : py_99 l2 c l) : py_48 2 t N n s l2 := by
  have e := py_99L y
  have e2 := py_99L w
  obtain ⟨x1, x2, x3, x4⟩ := x
  rw [e] at x1 x4
  have h8 : c / 4 ≠ 1008 := fun z => by rw [z] at hc; exact absurd hc (by decide)
  rw [py_neg_0 (show py_top (c / 4 :: _) ≠ 1008 from h8)] at x1
  refine ⟨?_, y.2.1, by rw [w.1]; omega, ?_⟩
  · rw [← x1, e2]
    show py_pop 2 (c / 4 :: py_L (s / 4)) (py_L (l / 4)) = _
    rw [py_pop_c hc]
    exact py_pop_0 z.1 (by decide)
  · rw [e2]
    show _ + ((py_L (l / 4)).length + 1) + 1 ≤ _
    replace x4 : (py_L (s / 4)).length + 1 + _ + 1 ≤ _ := x4
    omega
theorem pr_sq3 (x : py_48 2 t N n s2 l) (y : py_99 s2 c s) (hc : py_bd (c / 4) = 1) (z : py_44 1 s) (w : py_99 l2 c l) : py_48 1 t N n s l2 := by
  have e := py_99L y
  have e2 := py_99L w
  obtain ⟨x1, x2, x3, x4⟩ := x
  rw [e] at x1 x4
  refine ⟨?_, y.2.1, by rw [w.1]; omega, ?_⟩
  · rw [← py_pop_12, x1, e2]
    show py_pop 1 (c / 4 :: py_L (s / 4)) (py_L (l / 4)) = _
    rw [py_pop_c (by omega)]
    exact py_pop_0 z.1 (by decide)
  · rw [e2]
    show _ + ((py_L (l / 4)).length + 1) + 1 ≤ _
    replace x4 : (py_L (s / 4)).length + 1 + _ + 1 ≤ _ := x4
    omega
theorem pr_44 (y : py_99 s2 c s) (hc : py_bd (c / 4) < k) (h8 : c / 4 ≠ 1008) : py_44 k s2 := by
  have e := py_99L y
  refine ⟨by rw [e]; exact hc, by rw [e]; exact h8, by rw [y.1]; have := y.2.1; omega⟩
theorem pr_45 (y : py_44 1 s) : py_44 2 s := ⟨by have := y.1; omega, y.2.1, y.2.2⟩
end PYR
/-- the class's code -/
def py_ok (o v c : Nat) : Prop := (o = 1 ∧ v = c ∧ c ≤ 999) ∨ (o = 2 ∧ c = 1000) ∨ (o = 3 ∧ c = 1001) ∨ (o = 4 ∧ c = 1002) ∨ (o = 5 ∧ c = 1008) ∨ (o = 43 ∧ c = 1003) ∨ (o = 45 ∧ c = 1004) ∨ (o = 42 ∧ c = 1005) ∨ (o = 47 ∧ c = 1006) ∨ (o = 37 ∧ c = 1007)
noncomputable def py_x41 (l : Nat) (cs : Option Nat) (op od : Nat → Option Nat) : Prop := 1 ≤ l / 4 ∧ ay_ln cs = (py_L (l / 4)).length ∧ ∀ i c, (py_L (l / 4)).reverse[i]? = some c → ∃ o v, op i = some (4 * o) ∧ od i = some (4 * v) ∧ py_ok o v c
noncomputable def py_x80 (l o : Nat) (cs : Option Nat) (op od : Nat → Option Nat) : Prop := py_x41 l cs op od ∧ op (py_L (l / 4)).length = some o
noncomputable def py_x81 (l o v : Nat) (cs : Option Nat) (op od : Nat → Option Nat) : Prop := py_x80 l o cs op od ∧ od (py_L (l / 4)).length = some v
theorem py_rev {l : List Nat} {c i x : Nat} (h : (c :: l).reverse[i]? = some x) : (i < l.length ∧ l.reverse[i]? = some x) ∨ (i = l.length ∧ x = c) := by
  rw [List.reverse_cons] at h
  by_cases hi : i < l.length
  · rw [List.getElem?_append_left (by simpa using hi)] at h
    exact Or.inl ⟨hi, h⟩
  · rw [List.getElem?_append_right (by simpa using hi)] at h
    have hl := (List.getElem?_eq_some_iff.mp h).1
    simp only [List.length_reverse, List.length_cons, List.length_nil] at hl
    have e : i = l.length := by omega
    subst e
    rw [List.length_reverse, Nat.sub_self] at h
    exact Or.inr ⟨rfl, (Option.some.inj h).symm⟩
theorem py_add {l l2 o v c : Nat} {cs cs2 : Option Nat} {op od : Nat → Option Nat} (h : py_x81 l (4 * o) (4 * v) cs op od) (hc : py_ok o v (c / 4)) (y : py_99 l2 c l) (h2 : ay_ln cs2 = ay_ln cs + 1) : py_x41 l2 cs2 op od := by
  obtain ⟨⟨⟨a1, a2, a3⟩, a4⟩, a5⟩ := h
  have e := py_99L y
  refine ⟨by rw [y.1]; omega, by rw [h2, a2, e]; rfl, fun i x hx => ?_⟩
  rw [e] at hx
  rcases py_rev hx with ⟨-, h⟩ | ⟨h, h'⟩
  · exact a3 i x h
  · subst h h'
    exact ⟨o, v, a4, a5, hc⟩
theorem py_st0 {t N : Nat} {c : pz_C} : pz_md (pz_st t N c) ≠ 0 := by
  obtain ⟨md, p, no, ls, ⟨r, m, k⟩, u, s, o, a, b⟩ := c
  show (fun z => pz_md z ≠ 0) (pz_st t N (md, p, no, ls, (r, m, k), u, s, o, a, b))
  unfold pz_st
  dsimp only
  repeat' first
    | exact (show (21 : Nat) ≠ 0 by decide)
    | exact (show (20 : Nat) ≠ 0 by decide)
    | exact (show (1 : Nat) ≠ 0 by decide)
    | exact (show (2 : Nat) ≠ 0 by decide)
    | exact (show (3 : Nat) ≠ 0 by decide)
    | exact (show (4 : Nat) ≠ 0 by decide)
    | exact (show (5 : Nat) ≠ 0 by decide)
    | exact (show (6 : Nat) ≠ 0 by decide)
    | exact (show (7 : Nat) ≠ 0 by decide)
    | exact (show (8 : Nat) ≠ 0 by decide)
    | exact (show (9 : Nat) ≠ 0 by decide)
    | exact (show md ≠ 0 by assumption)
    | refine pz_ite (Q := fun z => pz_md z ≠ 0) (fun _ => ?_) (fun _ => ?_)
theorem py_m0 {t N n : Nat} (h : pz7 t N n 0) : n = 0 := by
  cases n with
  | zero => rfl
  | succ n => exact absurd h py_st0
theorem pr_46_0 {t N n : Nat} (h : pz7 t N n 0) : py_46 t N n 5 5 := by
  rw [py_m0 h]
  exact ⟨rfl, by decide, by decide, Nat.zero_le _⟩
theorem py_x41_0 {op od : Nat → Option Nat} {cs : Option Nat} (h : ay_ln cs = 0) : py_x41 5 cs op od := ⟨by decide, h, fun i c hc => by
  have : (py_L (5 / 4)).reverse = [] := rfl
  rw [this] at hc
  cases hc⟩
section PYW
variable {t N n : Nat}
theorem pr_k1 (h : pz107 t N n 1) : pz_kd t N (pz_p (pz_cf t N n)) = 2 := by
  rcases h.1 with ⟨-, h⟩ | ⟨h, -⟩ | ⟨h, -⟩ | ⟨-, ⟨h, -⟩ | ⟨h, -⟩ | ⟨h, -⟩⟩ | ⟨h, -⟩
  · exact h
  all_goals (exact absurd h (by decide))
theorem pr_k40 (h : pz107 t N n 40) : pz_kd t N (pz_p (pz_cf t N n)) = 40 := by
  rcases h.1 with ⟨h, -⟩ | ⟨-, h⟩ | ⟨h, -⟩ | ⟨-, ⟨h, -⟩ | ⟨h, -⟩ | ⟨h, -⟩⟩ | ⟨h, -⟩
  · exact absurd h (by decide)
  · exact h
  all_goals (exact absurd h (by decide))
theorem pr_k5 (h : pz107 t N n 5) : pz_kd t N (pz_p (pz_cf t N n)) = 45 := by
  rcases h.1 with ⟨h, -⟩ | ⟨h, -⟩ | ⟨-, h⟩ | ⟨-, ⟨h, -⟩ | ⟨h, -⟩ | ⟨h, -⟩⟩ | ⟨h, -⟩
  · exact absurd h (by decide)
  · exact absurd h (by decide)
  · exact h
  all_goals (exact absurd h (by decide))
theorem pr_w {k : Nat} (hk : k = 2 ∨ k = 3 ∨ k = 4) (h : pz107 t N n k) : pz_kd t N (pz_p (pz_cf t N n)) = 1 ∧ pz60 t N n (k + 3) := by
  rcases h.1 with ⟨h, -⟩ | ⟨h, -⟩ | ⟨h, -⟩ | ⟨h1, ⟨h, h2⟩ | ⟨h, h2⟩ | ⟨h, h2⟩⟩ | ⟨h, -⟩
  · omega
  · omega
  · omega
  · subst h; exact ⟨h1, h2⟩
  · subst h; exact ⟨h1, h2⟩
  · subst h; exact ⟨h1, h2⟩
  · omega
theorem pr_un1 (h : pz107 t N n 1) : py_un t N (pz_p (pz_cf t N n)) = pz_vl t N (pz_p (pz_cf t N n)) := if_pos (pr_k1 h)
theorem pr_unw {k : Nat} (hk : k = 2 ∨ k = 3 ∨ k = 4) (h : pz107 t N n k) : py_un t N (pz_p (pz_cf t N n)) = 998 + k := by
  obtain ⟨h1, h2⟩ := pr_w hk h
  have no : ∀ j, j < 8 → j ≠ k + 3 → pz_wd t N (pz_p (pz_cf t N n)) j = false := fun j hj hne => by
    cases hb : pz_wd t N (pz_p (pz_cf t N n)) j with
    | false => rfl
    | true => exact absurd (pz_wd_ex hj (by omega) hb h2) hne
  unfold py_un
  rw [if_neg (by rw [h1]; decide)]
  rcases hk with rfl | rfl | rfl
  · rw [if_pos (show pz_wd _ _ _ 5 = true from h2)]
  · rw [no 5 (by decide) (by decide), if_neg (by decide), if_pos (show pz_wd _ _ _ 6 = true from h2)]
  · rw [no 5 (by decide) (by decide), no 6 (by decide) (by decide), if_neg (by decide), if_neg (by decide)]
end PYW
/-- accepted, with this code -/
def py_82 (g l : Nat) : Prop := ∃ n, pz_md (pz_cf (pz_gt g) (pz_gN g) n) = 20 ∧ py_cx (pz_gt g) (pz_gN g) n = ([], py_L (l / 4)) ∧ 1 ≤ l / 4
theorem pr_82 {g n k l : Nat} (h : pz7 (pz_gt g) (pz_gN g) n k) (hk : k = 0 ∨ k = 3) (h0 : pz_kd (pz_gt g) (pz_gN g) (pz_p (pz_cf (pz_gt g) (pz_gN g) n)) = 0) (x : py_46 (pz_gt g) (pz_gN g) n 5 l) : py_82 g l := by
  refine ⟨n + 1, ?_, ?_, x.2.2.1⟩
  · rw [pz_cf_s]
    unfold pz7 at h
    generalize pz_cf (pz_gt g) (pz_gN g) n = c at *
    obtain ⟨md, p, no, ls, ⟨r, m, kk⟩, u, s, o, a, b⟩ := c
    simp only [pz_md, pz_p] at *
    unfold pz_st
    dsimp only
    rcases hk with rfl | rfl
    · subst h
      rw [if_pos rfl, if_pos h0]
    · subst h
      rw [if_neg (by decide), if_neg (by decide), if_neg (by decide), if_pos rfl, if_pos h0]
  · exact py_s0 h (by omega) (by omega) x.1
end
