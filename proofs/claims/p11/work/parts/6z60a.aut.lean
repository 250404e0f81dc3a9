/-! The text as a number, its tokens, and the reader as an automaton -/
/-- byte j of the text -/
def pz_b (t j : Nat) : Nat := t / 4294967296 ^ j % 4294967296
def pz_bl (c : Nat) : Bool := c == 32 || c == 10
def pz_lt (c : Nat) : Bool := decide (97 ≤ c) && decide (c ≤ 122)
def pz_dg (c : Nat) : Bool := decide (48 ≤ c) && decide (c ≤ 57)
def pz_sg (c : Nat) : Bool := c == 59 || c == 40 || c == 41 || c == 43 || c == 45 || c == 42 || c == 47 || c == 37
/-- where a run ends -/
def pz_run (P : Nat → Bool) (t N : Nat) : Nat → Nat → Nat
  | 0, p => p
  | f + 1, p => if p < N ∧ P (pz_b t p) = true then pz_run P t N f (p + 1) else p
def pz_e (P : Nat → Bool) (t N p : Nat) : Nat := pz_run P t N (N - p) p
theorem pz_e_on {P : Nat → Bool} {t N p : Nat} (h : p < N) (hP : P (pz_b t p) = true) : pz_e P t N p = pz_e P t N (p + 1) := by
  unfold pz_e
  rw [show N - p = (N - (p + 1)) + 1 by omega]
  show (if p < N ∧ P (pz_b t p) = true then pz_run P t N (N - (p + 1)) (p + 1) else p) = _
  rw [if_pos ⟨h, hP⟩]
theorem pz_e_off {P : Nat → Bool} {t N p : Nat} (h : N ≤ p ∨ P (pz_b t p) = false) : pz_e P t N p = p := by
  unfold pz_e
  cases hf : N - p with
  | zero => rfl
  | succ f =>
    show (if p < N ∧ P (pz_b t p) = true then pz_run P t N f (p + 1) else p) = _
    rw [if_neg]
    intro ⟨h1, h2⟩
    rcases h with h | h
    · omega
    · rw [h] at h2; cases h2
theorem pz_run_ge {P : Nat → Bool} {t N : Nat} : ∀ (f p : Nat), p ≤ pz_run P t N f p
  | 0, p => Nat.le_refl p
  | f + 1, p => by
    show p ≤ (if p < N ∧ P (pz_b t p) = true then pz_run P t N f (p + 1) else p)
    by_cases h : p < N ∧ P (pz_b t p) = true
    · rw [if_pos h]; have := pz_run_ge (P := P) (t := t) (N := N) f (p + 1); omega
    · rw [if_neg h]; exact Nat.le_refl p
theorem pz_e_ge {P : Nat → Bool} {t N p : Nat} : p ≤ pz_e P t N p := pz_run_ge _ _
/-- a number, 1000 if it is greater than 999 -/
def pz_m (x : Nat) : Nat := if x ≤ 1000 then x else 1000
def pz_nm (t N : Nat) : Nat → Nat → Nat → Nat
  | 0, _, a => a
  | f + 1, p, a => if p < N ∧ pz_dg (pz_b t p) = true then pz_nm t N f (p + 1) (pz_m (10 * a + (pz_b t p - 48))) else a
def pz_n (t N p a : Nat) : Nat := pz_nm t N (N - p) p a
theorem pz_n_on {t N p a : Nat} (h : p < N) (hP : pz_dg (pz_b t p) = true) : pz_n t N p a = pz_n t N (p + 1) (pz_m (10 * a + (pz_b t p - 48))) := by
  unfold pz_n
  rw [show N - p = (N - (p + 1)) + 1 by omega]
  show (if p < N ∧ pz_dg (pz_b t p) = true then pz_nm t N (N - (p + 1)) (p + 1) (pz_m (10 * a + (pz_b t p - 48))) else a) = _
  rw [if_pos ⟨h, hP⟩]
theorem pz_n_off {t N p a : Nat} (h : N ≤ p ∨ pz_dg (pz_b t p) = false) : pz_n t N p a = a := by
  unfold pz_n
  cases hf : N - p with
  | zero => rfl
  | succ f =>
    show (if p < N ∧ pz_dg (pz_b t p) = true then pz_nm t N f (p + 1) (pz_m (10 * a + (pz_b t p - 48))) else a) = _
    rw [if_neg]
    intro ⟨h1, h2⟩
    rcases h with h | h
    · omega
    · rw [h] at h2; cases h2
/-- the class's number, the reference's number -/
theorem pz_m_class {v d : Nat} (hd : d ≤ 9) : pz_m (if 10 * v + d ≤ 100000 then 10 * v + d else 100000) = pz_m (10 * pz_m v + d) := by
  unfold pz_m
  by_cases h1 : v ≤ 1000
  · rw [if_pos h1]
    by_cases h2 : 10 * v + d ≤ 100000
    · rw [if_pos h2]
    · omega
  · rw [if_neg h1, if_neg (show ¬ 10 * 1000 + d ≤ 1000 by omega)]
    by_cases h2 : 10 * v + d ≤ 100000
    · rw [if_pos h2, if_neg (by omega)]
    · rw [if_neg h2]; rfl
theorem pz_m_ref {v d : Nat} (hd : d ≤ 9) : pz_m (if 999 < v then v else 10 * v + d) = pz_m (10 * pz_m v + d) := by
  unfold pz_m
  by_cases h1 : v ≤ 1000
  · rw [if_pos h1]
    by_cases h2 : 999 < v
    · rw [if_pos h2, if_neg (show ¬ 10 * v + d ≤ 1000 by omega)]
      have : v = 1000 := by omega
      rw [this]; rfl
    · rw [if_neg h2]
  · rw [if_neg h1, if_pos (show 999 < v by omega), if_neg h1, if_neg (show ¬ 10 * 1000 + d ≤ 1000 by omega)]
/-- the token at p: where it stands -/
def pz_at (t N p : Nat) : Nat := pz_e pz_bl t N p
/-- its kind: 0 the end, 1 a word, 2 a number, 3 none, a sign: its byte -/
def pz_kd (t N p : Nat) : Nat := if N ≤ pz_at t N p then 0 else if pz_lt (pz_b t (pz_at t N p)) then 1 else if pz_dg (pz_b t (pz_at t N p)) then 2 else if pz_sg (pz_b t (pz_at t N p)) then pz_b t (pz_at t N p) else 3
/-- where the next one may begin -/
def pz_nx (t N p : Nat) : Nat := if N ≤ pz_at t N p then pz_at t N p else if pz_lt (pz_b t (pz_at t N p)) then pz_e pz_lt t N (pz_at t N p) else if pz_dg (pz_b t (pz_at t N p)) then pz_e pz_dg t N (pz_at t N p) else pz_at t N p + 1
def pz_vl (t N p : Nat) : Nat := pz_n t N (pz_at t N p) 0
def pz_ws : List (List Nat) := [[115, 119, 105, 116, 99, 104, 101, 115], [108, 105, 110, 107], [114, 111, 111, 116], [114, 111, 111, 109], [114, 97, 110, 107], [102, 97, 114], [110, 117, 109, 98, 101, 114], [108, 105, 110, 107, 115]]
/-- it is the word w -/
def pz_is (t N p : Nat) (w : List Nat) : Bool := pz_kd t N p == 1 && (pz_nx t N p - pz_at t N p == w.length && (List.range w.length).all (fun i => pz_b t (pz_at t N p + i) == w.getD i 0))
def pz_wd (t N p k : Nat) : Bool := pz_is t N p (pz_ws.getD k [])
/-- a configuration: mode, place, nodes, links, what was told (root, room, rank), units, stack, the link's first end, root, room; mode 20: accepted, 21: a fault (its kind in units, its place in nodes) -/
abbrev pz_C : Type := Nat × Nat × Nat × List (Nat × Nat) × (Bool × Bool × Bool) × Nat × Nat × Nat × Nat × Nat
def pz_fl (k a : Nat) : pz_C := (21, 0, a, [], (false, false, false), k, 0, 0, 0, 0)
/-- minuses on top go -/
def pz_str : Nat → Nat → Nat
  | 0, s => s
  | f + 1, s => if s % 2 = 1 ∧ 1 < s then pz_str f (s / 2) else s
def pz_strip (s : Nat) : Nat := pz_str s s
def pz_dep : Nat → Nat → Nat
  | 0, _ => 0
  | f + 1, s => if 1 < s then pz_dep f (s / 2) + 1 else 0
/-- how deep -/
def pz_dp (s : Nat) : Nat := pz_dep s s
def pz_jn (ls : List (Nat × Nat)) (a b : Nat) : Bool := ls.any (fun x => (x.1 == a && x.2 == b) || (x.1 == b && x.2 == a))
def pz_op (k : Nat) : Bool := k == 43 || k == 45 || k == 42 || k == 47 || k == 37
/-- one token -/
def pz_st (t N : Nat) (c : pz_C) : pz_C :=
  let (md, p, no, ls, (r, m, k), un, s, o, ro, rm) := c
  let a := pz_at t N p; let kd := pz_kd t N p; let nx := pz_nx t N p; let v := pz_vl t N p
  if md = 0 then (if kd = 0 then (20, p, no, ls, (r, m, k), un, s, o, ro, rm) else if pz_wd t N p 0 then (1, nx, no, ls, (r, m, k), un, s, o, ro, rm) else pz_fl 1 a)
  else if md = 1 then (if kd ≠ 2 then pz_fl 1 a else if v < 2 ∨ 10 < v then pz_fl 2 a else (2, nx, v, ls, (r, m, k), un, s, o, ro, rm))
  else if md = 2 then (if kd ≠ 59 then pz_fl 1 a else (3, nx, no, ls, (r, m, k), un, s, o, ro, rm))
  else if md = 3 then (if kd = 0 then (20, p, no, ls, (r, m, k), un, s, o, ro, rm) else if pz_wd t N p 1 then (if ls.length = 20 then pz_fl 4 a else (4, nx, no, ls, (r, m, k), un, s, o, ro, rm))
    else if pz_wd t N p 2 = true ∧ r = false then (6, nx, no, ls, (true, m, k), un, s, o, ro, rm) else if pz_wd t N p 3 = true ∧ m = false then (7, nx, no, ls, (r, true, k), un, s, o, ro, rm) else if pz_wd t N p 4 = true ∧ k = false then (8, nx, no, ls, (r, m, true), un, 1, o, ro, rm) else pz_fl 1 a)
  else if md = 4 then (if kd ≠ 2 then pz_fl 1 a else if no ≤ v then pz_fl 2 a else (5, nx, no, ls, (r, m, k), un, s, v, ro, rm))
  else if md = 5 then (if kd ≠ 2 then pz_fl 1 a else if no ≤ v ∨ v = o then pz_fl 2 a else if pz_jn ls o v then pz_fl 3 a else (2, nx, no, ls ++ [(o, v)], (r, m, k), un, s, o, ro, rm))
  else if md = 6 then (if kd ≠ 2 then pz_fl 1 a else if no ≤ v then pz_fl 2 a else (2, nx, no, ls, (r, m, k), un, s, o, v, rm))
  else if md = 7 then (if kd ≠ 2 then pz_fl 1 a else if v < 1 ∨ 3 < v then pz_fl 2 a else (2, nx, no, ls, (r, m, k), un, s, o, ro, v))
  else if md = 8 then (if ¬ (kd = 2 ∨ kd = 40 ∨ kd = 45 ∨ pz_wd t N p 5 = true ∨ pz_wd t N p 6 = true ∨ pz_wd t N p 7 = true) then pz_fl 1 a else if kd = 2 ∧ 999 < v then pz_fl 2 a else if un = 40 ∨ 5 < pz_dp s then pz_fl 4 a
    else if kd = 40 then (8, nx, no, ls, (r, m, k), un + 1, 2 * s, o, ro, rm) else if kd = 45 then (8, nx, no, ls, (r, m, k), un + 1, 2 * s + 1, o, ro, rm) else (9, nx, no, ls, (r, m, k), un + 1, pz_strip s, o, ro, rm))
  else if md = 9 then (if kd = 41 ∧ 1 < s then (9, nx, no, ls, (r, m, k), un, pz_strip (s / 2), o, ro, rm) else if pz_op kd then (8, nx, no, ls, (r, m, k), un, s, o, ro, rm) else if 1 < s then pz_fl 1 a else if kd ≠ 59 then pz_fl 1 a else (3, nx, no, ls, (r, m, k), un, s, o, ro, rm))
  else c
def pz_c0 : pz_C := (0, 0, 0, [], (false, false, false), 0, 1, 0, 0, 1)
def pz_cf (t N : Nat) : Nat → pz_C
  | 0 => pz_c0
  | n + 1 => pz_st t N (pz_cf t N n)
theorem pz_fin {t N n : Nat} (h : (pz_cf t N n).1 = 20 ∨ (pz_cf t N n).1 = 21) : ∀ k, pz_cf t N (n + k) = pz_cf t N n
  | 0 => rfl
  | k + 1 => by
    show pz_st t N (pz_cf t N (n + k)) = _
    rw [pz_fin h k]
    generalize pz_cf t N n = c at h
    obtain ⟨md, p, no, ls, ⟨r, m, kk⟩, un, s, o, ro, rm⟩ := c
    replace h : md = 20 ∨ md = 21 := h
    unfold pz_st
    rcases h with rfl | rfl <;> rfl
/-- the end is one -/
theorem pz_one {t N n m : Nat} (h : (pz_cf t N n).1 = 20 ∨ (pz_cf t N n).1 = 21) (h' : (pz_cf t N m).1 = 20 ∨ (pz_cf t N m).1 = 21) : pz_cf t N n = pz_cf t N m := by
  rcases Nat.le_total n m with hl | hl
  · obtain ⟨k, rfl⟩ := Nat.le.dest hl
    exact (pz_fin h k).symm
  · obtain ⟨k, rfl⟩ := Nat.le.dest hl
    exact pz_fin h' k

/-! What is named, on numbers; one step each -/
def pz_md (c : pz_C) : Nat := c.1
def pz_p (c : pz_C) : Nat := c.2.1
def pz_no (c : pz_C) : Nat := c.2.2.1
def pz_ls (c : pz_C) : List (Nat × Nat) := c.2.2.2.1
def pz_fr (c : pz_C) : Bool := c.2.2.2.2.1.1
def pz_fm (c : pz_C) : Bool := c.2.2.2.2.1.2.1
def pz_fk (c : pz_C) : Bool := c.2.2.2.2.1.2.2
def pz_un (c : pz_C) : Nat := c.2.2.2.2.2.1
def pz_s (c : pz_C) : Nat := c.2.2.2.2.2.2.1
def pz_o (c : pz_C) : Nat := c.2.2.2.2.2.2.2.1
def pz_ro (c : pz_C) : Nat := c.2.2.2.2.2.2.2.2.1
def pz_rm (c : pz_C) : Nat := c.2.2.2.2.2.2.2.2.2
def pz_B (b : Bool) : Nat := if b then 1 else 0
/-- the links laid -/
def pz_lk (ls : List (Nat × Nat)) (be fi : Nat → Option Nat) : Prop := ∀ l a b, ls[l]? = some (a, b) → be (2 * l) = some (4 * a) ∧ fi (2 * l) = some (4 * b) ∧ be (2 * l + 1) = some (4 * b) ∧ fi (2 * l + 1) = some (4 * a)
def pz_dt (c : pz_C) (sw ln ro rm un rt rom rk fa fp : Nat) (be fi : Nat → Option Nat) : Prop :=
  sw = pz_no c ∧ ln = (pz_ls c).length ∧ ro = pz_ro c ∧ rm = pz_rm c ∧ un = pz_un c ∧ rt = pz_B (pz_fr c) ∧ rom = pz_B (pz_fm c) ∧ rk = pz_B (pz_fk c) ∧ fa = 0 ∧ fp = 4294967295 ∧ pz_lk (pz_ls c) be fi
theorem pz_cf_s {t N n : Nat} : pz_cf t N (n + 1) = pz_st t N (pz_cf t N n) := rfl
section PKN
variable {t N n AH PL KD VL sw ln ro rm un rt rom rk fa fp : Nat} {be fi : Nat → Option Nat}
def pz53 (t N n AH sw ln ro rm un rt rom rk fa fp : Nat) (be fi : Nat → Option Nat) : Prop := AH = pz_p (pz_cf t N n) ∧ pz_dt (pz_cf t N n) sw ln ro rm un rt rom rk fa fp be fi
def pz50 (t N n AH PL KD VL sw ln ro rm un rt rom rk fa fp : Nat) (be fi : Nat → Option Nat) : Prop :=
  AH = pz_nx t N (pz_p (pz_cf t N n)) ∧ PL = pz_at t N (pz_p (pz_cf t N n)) ∧ KD = pz_kd t N (pz_p (pz_cf t N n)) ∧ (KD = 2 → pz_m VL = pz_vl t N (pz_p (pz_cf t N n))) ∧ pz_dt (pz_cf t N n) sw ln ro rm un rt rom rk fa fp be fi
def pz64 (t N n k : Nat) : Prop := pz_cf t N (n + 1) = pz_fl k (pz_at t N (pz_p (pz_cf t N n)))
def pz60 (t N n k : Nat) : Prop := pz_wd t N (pz_p (pz_cf t N n)) k = true
def pz61 (t N n k : Nat) : Prop := pz_wd t N (pz_p (pz_cf t N n)) k = false
def pz7 (t N n m : Nat) : Prop := pz_md (pz_cf t N n) = m
def pz66 (t N n v : Nat) : Prop := pz_kd t N (pz_p (pz_cf t N n)) = 2 ∧ pz_vl t N (pz_p (pz_cf t N n)) = v
def pz104 (t N n v : Nat) : Prop := pz66 t N n v ∧ v < pz_no (pz_cf t N n)
def pz90 (t N n s : Nat) : Prop := pz_s (pz_cf t N n) = s
def pz67 (t N n a : Nat) : Prop := pz_o (pz_cf t N n) = a
def pz94 (t N n : Nat) : Prop := pz_op (pz_kd t N (pz_p (pz_cf t N n))) = false
def pz95 (t N n : Nat) : Prop := pz_kd t N (pz_p (pz_cf t N n)) ≠ 42 ∧ pz_kd t N (pz_p (pz_cf t N n)) ≠ 47 ∧ pz_kd t N (pz_p (pz_cf t N n)) ≠ 37
def pz111 (t N n : Nat) : Prop := pz_kd t N (pz_p (pz_cf t N n)) ≠ 0
def pz106 (t N n op : Nat) : Prop := (op = 1 ∧ pz_kd t N (pz_p (pz_cf t N n)) = 2) ∨ (op = 40 ∧ pz_kd t N (pz_p (pz_cf t N n)) = 40) ∨ (op = 5 ∧ pz_kd t N (pz_p (pz_cf t N n)) = 45)
  ∨ (pz_kd t N (pz_p (pz_cf t N n)) = 1 ∧ ((op = 2 ∧ pz60 t N n 5) ∨ (op = 3 ∧ pz60 t N n 6) ∨ (op = 4 ∧ pz60 t N n 7))) ∨ (op = 0 ∧ pz_kd t N (pz_p (pz_cf t N n)) ≠ 2 ∧ pz_kd t N (pz_p (pz_cf t N n)) ≠ 40 ∧ pz_kd t N (pz_p (pz_cf t N n)) ≠ 45 ∧ pz61 t N n 5 ∧ pz61 t N n 6 ∧ pz61 t N n 7)
def pz107 (t N n op : Nat) : Prop := pz106 t N n op ∧ op ≠ 0 ∧ (op = 1 → pz_vl t N (pz_p (pz_cf t N n)) ≤ 999)
def pz110 (t N sw ln ro rm un rt rom rk fa fp : Nat) (be fi : Nat → Option Nat) : Prop := ∃ n, pz7 t N n 20 ∧ pz_dt (pz_cf t N n) sw ln ro rm un rt rom rk fa fp be fi
def pz63 (t N fa fp : Nat) : Prop := ∃ n, pz_cf t N n = pz_fl fa fp
def pz113 (t N n a b : Nat) : Prop := pz_jn (pz_ls (pz_cf t N n)) a b = false
def pz112 (t N n a b : Nat) : Prop := pz_jn (pz_ls (pz_cf t N n)) a b = true
/-- a word is of kind 1 -/
theorem pz_wd1 {p k : Nat} (h : pz_wd t N p k = true) : pz_kd t N p = 1 := by
  unfold pz_wd pz_is at h
  exact eq_of_beq (Bool.and_eq_true_iff.mp h).1
/-- one word is not another -/
theorem pz_wdx {p j k i : Nat} (hj : i < (pz_ws.getD j []).length) (hk : i < (pz_ws.getD k []).length) (hd : (pz_ws.getD j []).getD i 0 ≠ (pz_ws.getD k []).getD i 0) (h1 : pz_wd t N p j = true) (h2 : pz_wd t N p k = true) : False := by
  unfold pz_wd pz_is at h1 h2
  have a1 := List.all_eq_true.mp (Bool.and_eq_true_iff.mp (Bool.and_eq_true_iff.mp h1).2).2 i (List.mem_range.mpr hj)
  have a2 := List.all_eq_true.mp (Bool.and_eq_true_iff.mp (Bool.and_eq_true_iff.mp h2).2).2 i (List.mem_range.mpr hk)
  exact hd ((eq_of_beq a1).symm.trans (eq_of_beq a2))
theorem pq_fl2 {k : Nat} (h : pz64 t N n k) : pz63 t N k (pz_at t N (pz_p (pz_cf t N n))) := ⟨n + 1, h⟩
theorem pq_rn1 {M : Nat} (hM : M = 1 ∨ M = 4 ∨ M = 5 ∨ M = 6 ∨ M = 7) (hm : pz7 t N n M) (hk : pz_kd t N (pz_p (pz_cf t N n)) ≠ 2) : pz64 t N n 1 := by
  unfold pz64 pz7 at *
  rw [pz_cf_s]
  generalize pz_cf t N n = c at *
  obtain ⟨md, p, no, ls, ⟨r, m, k⟩, u, s, o, a, b⟩ := c
  simp only [pz_md, pz_p, pz_no, pz_ls, pz_fr, pz_fm, pz_fk, pz_un, pz_s, pz_o, pz_ro, pz_rm] at *
  rcases hM with rfl | rfl | rfl | rfl | rfl <;> subst hm <;> simp [pz_st, hk]
theorem pq_rn2 {M : Nat} (hM : M = 4 ∨ M = 5 ∨ M = 6) (hm : pz7 t N n M) (hk : pz_kd t N (pz_p (pz_cf t N n)) = 2) (hv : pz_no (pz_cf t N n) ≤ pz_vl t N (pz_p (pz_cf t N n))) : pz64 t N n 2 := by
  unfold pz64 pz7 at *
  rw [pz_cf_s]
  generalize pz_cf t N n = c at *
  obtain ⟨md, p, no, ls, ⟨r, m, k⟩, u, s, o, a, b⟩ := c
  simp only [pz_md, pz_p, pz_no, pz_ls, pz_fr, pz_fm, pz_fk, pz_un, pz_s, pz_o, pz_ro, pz_rm] at *
  rcases hM with rfl | rfl | rfl <;> subst hm <;> simp [pz_st, hk, hv]
theorem pq_rn31 (hm : pz7 t N n 1) (hk : pz_kd t N (pz_p (pz_cf t N n)) = 2) (hv : pz_vl t N (pz_p (pz_cf t N n)) < 2 ∨ 10 < pz_vl t N (pz_p (pz_cf t N n))) : pz64 t N n 2 := by
  unfold pz64 pz7 at *
  rw [pz_cf_s]
  generalize pz_cf t N n = c at *
  obtain ⟨md, p, no, ls, ⟨r, m, k⟩, u, s, o, a, b⟩ := c
  simp only [pz_md, pz_p, pz_no, pz_ls, pz_fr, pz_fm, pz_fk, pz_un, pz_s, pz_o, pz_ro, pz_rm] at *
  subst hm
  simp [pz_st, hk, hv]
theorem pq_rn37 (hm : pz7 t N n 7) (hk : pz_kd t N (pz_p (pz_cf t N n)) = 2) (hv : pz_vl t N (pz_p (pz_cf t N n)) < 1 ∨ 3 < pz_vl t N (pz_p (pz_cf t N n))) : pz64 t N n 2 := by
  unfold pz64 pz7 at *
  rw [pz_cf_s]
  generalize pz_cf t N n = c at *
  obtain ⟨md, p, no, ls, ⟨r, m, k⟩, u, s, o, a, b⟩ := c
  simp only [pz_md, pz_p, pz_no, pz_ls, pz_fr, pz_fm, pz_fk, pz_un, pz_s, pz_o, pz_ro, pz_rm] at *
  subst hm
  simp [pz_st, hk]
  intro h0 h3
  exfalso
  omega
theorem pq_rs1 (hm : pz7 t N n 2) (hk : pz_kd t N (pz_p (pz_cf t N n)) ≠ 59) : pz64 t N n 1 := by
  unfold pz64 pz7 at *
  rw [pz_cf_s]
  generalize pz_cf t N n = c at *
  obtain ⟨md, p, no, ls, ⟨r, m, k⟩, u, s, o, a, b⟩ := c
  simp only [pz_md, pz_p, pz_no, pz_ls, pz_fr, pz_fm, pz_fk, pz_un, pz_s, pz_o, pz_ro, pz_rm] at *
  subst hm
  simp [pz_st, hk]
theorem pq_rs2 (hm : pz7 t N n 9) (hs : pz90 t N n 1) (ho : pz94 t N n) (hk : pz_kd t N (pz_p (pz_cf t N n)) ≠ 59) : pz64 t N n 1 := by
  unfold pz64 pz7 pz90 pz94 at *
  rw [pz_cf_s]
  generalize pz_cf t N n = c at *
  obtain ⟨md, p, no, ls, ⟨r, m, k⟩, u, s, o, a, b⟩ := c
  simp only [pz_md, pz_p, pz_no, pz_ls, pz_fr, pz_fm, pz_fk, pz_un, pz_s, pz_o, pz_ro, pz_rm] at *
  subst hm hs
  simp [pz_st, hk, ho]
theorem pq_rs3 {S s0 : Nat} (hm : pz7 t N n 9) (hs : pz90 t N n S) (h2 : S = 2 * s0) (h0 : 1 ≤ s0) (ho : pz94 t N n) (hk : pz_kd t N (pz_p (pz_cf t N n)) ≠ 41) : pz64 t N n 1 := by
  unfold pz64 pz7 pz90 pz94 at *
  rw [pz_cf_s]
  generalize pz_cf t N n = c at *
  obtain ⟨md, p, no, ls, ⟨r, m, k⟩, u, s, o, a, b⟩ := c
  simp only [pz_md, pz_p, pz_no, pz_ls, pz_fr, pz_fm, pz_fk, pz_un, pz_s, pz_o, pz_ro, pz_rm] at *
  subst hm hs
  have : 1 < s := by omega
  simp [pz_st, hk, ho, this]
theorem pq_rs4 (h : pz50 t N n AH PL KD VL sw ln ro rm un rt rom rk fa fp be fi) (hm : pz7 t N n 2) (hk : KD = 59) : pz53 t N (n + 1) AH sw ln ro rm un rt rom rk fa fp be fi ∧ pz7 t N (n + 1) 3 := by
  unfold pz50 pz53 pz7 pz_dt at *
  rw [pz_cf_s]
  generalize pz_cf t N n = c at *
  obtain ⟨md, p, no, ls, ⟨r, m, k⟩, u, s, o, a, b⟩ := c
  simp only [pz_md, pz_p, pz_no, pz_ls, pz_fr, pz_fm, pz_fk, pz_un, pz_s, pz_o, pz_ro, pz_rm] at *
  subst hm
  obtain ⟨h1, h2, h3, h4, h5⟩ := h
  have h3' : pz_kd t N p = 59 := by omega
  simp [pz_st, h3', h1]
  exact h5
theorem pq_rs5 (h : pz50 t N n AH PL KD VL sw ln ro rm un rt rom rk fa fp be fi) (hm : pz7 t N n 9) (hs : pz90 t N n 1) (hk : KD = 59) : pz53 t N (n + 1) AH sw ln ro rm un rt rom rk fa fp be fi ∧ pz7 t N (n + 1) 3 := by
  unfold pz50 pz53 pz7 pz90 pz_dt at *
  rw [pz_cf_s]
  generalize pz_cf t N n = c at *
  obtain ⟨md, p, no, ls, ⟨r, m, k⟩, u, s, o, a, b⟩ := c
  simp only [pz_md, pz_p, pz_no, pz_ls, pz_fr, pz_fm, pz_fk, pz_un, pz_s, pz_o, pz_ro, pz_rm] at *
  subst hm hs
  obtain ⟨h1, h2, h3, h4, h5⟩ := h
  have h3' : pz_kd t N p = 59 := by omega
  simp [pz_st, h3', h1, pz_op]
  exact h5
theorem pq_rs6 (h : pz50 t N n AH PL KD VL sw ln ro rm un rt rom rk fa fp be fi) {S s0 : Nat} (hm : pz7 t N n 9) (hs : pz90 t N n S) (hS : S = 2 * s0) (h0 : 1 ≤ s0) (hk : KD = 41) : pz53 t N (n + 1) AH sw ln ro rm un rt rom rk fa fp be fi ∧ pz7 t N (n + 1) 9 ∧ pz90 t N (n + 1) (pz_strip s0) := by
  unfold pz50 pz53 pz7 pz90 pz_dt at *
  rw [pz_cf_s]
  generalize pz_cf t N n = c at *
  obtain ⟨md, p, no, ls, ⟨r, m, k⟩, u, s, o, a, b⟩ := c
  simp only [pz_md, pz_p, pz_no, pz_ls, pz_fr, pz_fm, pz_fk, pz_un, pz_s, pz_o, pz_ro, pz_rm] at *
  obtain ⟨h1, h2, h3, h4, e1, e2, e3, e4, e5, e6, e7, e8, e9, e10, e11⟩ := h
  subst hm hs
  have g1 : pz_kd t N p = 41 := by omega
  have g2 : 1 < s := by omega
  have g3 : s / 2 = s0 := by omega
  simp [pz_st, g1, g2, g3, h1, e1, e2, e3, e4, e5, e6, e7, e8, e9, e10]
  exact e11
theorem pq_ru1 (hm : pz7 t N n 8) (hu : pz106 t N n 0) : pz64 t N n 1 := by
  unfold pz64 pz7 pz106 pz60 pz61 at *
  rw [pz_cf_s]
  generalize pz_cf t N n = c at *
  obtain ⟨md, p, no, ls, ⟨r, m, k⟩, u, s, o, a, b⟩ := c
  simp only [pz_md, pz_p, pz_no, pz_ls, pz_fr, pz_fm, pz_fk, pz_un, pz_s, pz_o, pz_ro, pz_rm] at *
  subst hm
  simp at hu
  obtain ⟨a1, a2, a3, a4, a5, a6⟩ := hu
  simp [pz_st, a1, a2, a3, a4, a5, a6]
theorem pq_ru2 (hm : pz7 t N n 8) (hu : pz106 t N n 1) (hv : 999 < pz_vl t N (pz_p (pz_cf t N n))) : pz64 t N n 2 := by
  unfold pz64 pz7 pz106 pz60 pz61 at *
  rw [pz_cf_s]
  generalize pz_cf t N n = c at *
  obtain ⟨md, p, no, ls, ⟨r, m, k⟩, u, s, o, a, b⟩ := c
  simp only [pz_md, pz_p, pz_no, pz_ls, pz_fr, pz_fm, pz_fk, pz_un, pz_s, pz_o, pz_ro, pz_rm] at *
  subst hm
  simp at hu
  simp [pz_st, hu, hv]
theorem pz_okU {c : pz_C} {op : Nat} (hm : pz_md c = 8) (hu : (op = 1 ∧ pz_kd t N (pz_p c) = 2) ∨ (op = 40 ∧ pz_kd t N (pz_p c) = 40) ∨ (op = 5 ∧ pz_kd t N (pz_p c) = 45) ∨ (pz_kd t N (pz_p c) = 1 ∧ ((op = 2 ∧ pz_wd t N (pz_p c) 5 = true) ∨ (op = 3 ∧ pz_wd t N (pz_p c) 6 = true) ∨ (op = 4 ∧ pz_wd t N (pz_p c) 7 = true)))) (hv : op = 1 → pz_vl t N (pz_p c) ≤ 999) :
    pz_st t N c = if pz_un c = 40 ∨ 5 < pz_dp (pz_s c) then pz_fl 4 (pz_at t N (pz_p c)) else if op = 40 then (8, pz_nx t N (pz_p c), pz_no c, pz_ls c, (pz_fr c, pz_fm c, pz_fk c), pz_un c + 1, 2 * pz_s c, pz_o c, pz_ro c, pz_rm c)
      else if op = 5 then (8, pz_nx t N (pz_p c), pz_no c, pz_ls c, (pz_fr c, pz_fm c, pz_fk c), pz_un c + 1, 2 * pz_s c + 1, pz_o c, pz_ro c, pz_rm c) else (9, pz_nx t N (pz_p c), pz_no c, pz_ls c, (pz_fr c, pz_fm c, pz_fk c), pz_un c + 1, pz_strip (pz_s c), pz_o c, pz_ro c, pz_rm c) := by
  obtain ⟨md, p, no, ls, ⟨r, m, k⟩, u, s, o, a, b⟩ := c
  simp only [pz_md, pz_p, pz_no, pz_ls, pz_fr, pz_fm, pz_fk, pz_un, pz_s, pz_o, pz_ro, pz_rm] at *
  subst hm
  rcases hu with ⟨rfl, g⟩ | ⟨rfl, g⟩ | ⟨rfl, g⟩ | ⟨g, ⟨rfl, g2⟩ | ⟨rfl, g2⟩ | ⟨rfl, g2⟩⟩
  · have hv := hv rfl
    have : ¬ 999 < pz_vl t N p := by omega
    simp [pz_st, g, this]
  · simp [pz_st, g]
  · simp [pz_st, g]
  · simp [pz_st, g, g2]
  · simp [pz_st, g, g2]
  · simp [pz_st, g, g2]
theorem pz_107 {op : Nat} (hm : pz7 t N n 8) (hu : pz107 t N n op) : pz_cf t N (n + 1) = if pz_un (pz_cf t N n) = 40 ∨ 5 < pz_dp (pz_s (pz_cf t N n)) then pz_fl 4 (pz_at t N (pz_p (pz_cf t N n))) else if op = 40 then (8, pz_nx t N (pz_p (pz_cf t N n)), pz_no (pz_cf t N n), pz_ls (pz_cf t N n), (pz_fr (pz_cf t N n), pz_fm (pz_cf t N n), pz_fk (pz_cf t N n)), pz_un (pz_cf t N n) + 1, 2 * pz_s (pz_cf t N n), pz_o (pz_cf t N n), pz_ro (pz_cf t N n), pz_rm (pz_cf t N n))
      else if op = 5 then (8, pz_nx t N (pz_p (pz_cf t N n)), pz_no (pz_cf t N n), pz_ls (pz_cf t N n), (pz_fr (pz_cf t N n), pz_fm (pz_cf t N n), pz_fk (pz_cf t N n)), pz_un (pz_cf t N n) + 1, 2 * pz_s (pz_cf t N n) + 1, pz_o (pz_cf t N n), pz_ro (pz_cf t N n), pz_rm (pz_cf t N n)) else (9, pz_nx t N (pz_p (pz_cf t N n)), pz_no (pz_cf t N n), pz_ls (pz_cf t N n), (pz_fr (pz_cf t N n), pz_fm (pz_cf t N n), pz_fk (pz_cf t N n)), pz_un (pz_cf t N n) + 1, pz_strip (pz_s (pz_cf t N n)), pz_o (pz_cf t N n), pz_ro (pz_cf t N n), pz_rm (pz_cf t N n)) := by
  obtain ⟨h1, h2, h3⟩ := hu
  refine pz_okU hm ?_ h3
  rcases h1 with h | h | h | h | h
  · exact Or.inl h
  · exact Or.inr (Or.inl h)
  · exact Or.inr (Or.inr (Or.inl h))
  · exact Or.inr (Or.inr (Or.inr h))
  · exact absurd h.1 h2
theorem pq_ru4 {op : Nat} (h : pz50 t N n AH PL KD VL sw ln ro rm un rt rom rk fa fp be fi) (hm : pz7 t N n 8) (hu : pz107 t N n op) (h40 : un = 40) : pz64 t N n 4 := by
  unfold pz64
  rw [pz_107 hm hu, if_pos (Or.inl (by have := h.2.2.2.2.2.2.2.2.1; omega))]
theorem pq_ru5 {op S : Nat} (hm : pz7 t N n 8) (hu : pz107 t N n op) (hs : pz90 t N n S) (hd : pz_dp S = 6) : pz64 t N n 4 := by
  unfold pz64 pz90 at *
  subst hs
  rw [pz_107 hm hu, if_pos (Or.inr (by omega))]
theorem pq_ru6u {op : Nat} (h : pz50 t N n AH PL KD VL sw ln ro rm un rt rom rk fa fp be fi) (hm : pz7 t N n 8) (hu : pz107 t N n op) (h5 : op ≠ 5) (h40 : op ≠ 40) {S : Nat} (hs : pz90 t N n S) (hd : pz_dp S ≤ 5) (hun : un ≤ 39) : pz53 t N (n + 1) AH sw ln ro rm (un + 1) rt rom rk fa fp be fi ∧ pz7 t N (n + 1) 9 ∧ pz90 t N (n + 1) (pz_strip S) := by
  have e := pz_107 hm hu
  unfold pz50 pz53 pz7 pz90 pz_dt at *
  subst hs
  obtain ⟨h1, h2, h3, h4, e1, e2, e3, e4, e5, e6, e7, e8, e9, e10, e11⟩ := h
  rw [if_neg (by rintro (g | g) <;> omega), if_neg h40, if_neg h5] at e
  rw [e]
  exact ⟨⟨h1, e1, e2, e3, e4, by show un + 1 = pz_un (pz_cf t N n) + 1; omega, e6, e7, e8, e9, e10, e11⟩, rfl, rfl⟩
theorem pq_ru6o (h : pz50 t N n AH PL KD VL sw ln ro rm un rt rom rk fa fp be fi) (hm : pz7 t N n 8) (hu : pz107 t N n 40)  {S : Nat} (hs : pz90 t N n S) (hd : pz_dp S ≤ 5) (hun : un ≤ 39) : pz53 t N (n + 1) AH sw ln ro rm (un + 1) rt rom rk fa fp be fi ∧ pz7 t N (n + 1) 8 ∧ pz90 t N (n + 1) (2 * S) := by
  have e := pz_107 hm hu
  unfold pz50 pz53 pz7 pz90 pz_dt at *
  subst hs
  obtain ⟨h1, h2, h3, h4, e1, e2, e3, e4, e5, e6, e7, e8, e9, e10, e11⟩ := h
  rw [if_neg (by rintro (g | g) <;> omega), if_pos rfl] at e
  rw [e]
  exact ⟨⟨h1, e1, e2, e3, e4, by show un + 1 = pz_un (pz_cf t N n) + 1; omega, e6, e7, e8, e9, e10, e11⟩, rfl, rfl⟩
theorem pq_ru6m (h : pz50 t N n AH PL KD VL sw ln ro rm un rt rom rk fa fp be fi) (hm : pz7 t N n 8) (hu : pz107 t N n 5)  {S : Nat} (hs : pz90 t N n S) (hd : pz_dp S ≤ 5) (hun : un ≤ 39) : pz53 t N (n + 1) AH sw ln ro rm (un + 1) rt rom rk fa fp be fi ∧ pz7 t N (n + 1) 8 ∧ pz90 t N (n + 1) (2 * S + 1) := by
  have e := pz_107 hm hu
  unfold pz50 pz53 pz7 pz90 pz_dt at *
  subst hs
  obtain ⟨h1, h2, h3, h4, e1, e2, e3, e4, e5, e6, e7, e8, e9, e10, e11⟩ := h
  rw [if_neg (by rintro (g | g) <;> omega), if_neg (by decide), if_pos rfl] at e
  rw [e]
  exact ⟨⟨h1, e1, e2, e3, e4, by show un + 1 = pz_un (pz_cf t N n) + 1; omega, e6, e7, e8, e9, e10, e11⟩, rfl, rfl⟩
theorem pz_str_ge : ∀ {f s g : Nat}, s ≤ f → s ≤ g → pz_str f s = pz_str g s
  | 0, s, g, h1, h2 => by
    have : s = 0 := by omega
    subst this
    cases g with
    | zero => rfl
    | succ g => show _ = (if 0 % 2 = 1 ∧ 1 < 0 then _ else 0); rw [if_neg (by omega)]; rfl
  | f + 1, s, 0, h1, h2 => by
    have : s = 0 := by omega
    subst this
    show (if 0 % 2 = 1 ∧ 1 < 0 then _ else 0) = _
    rw [if_neg (by omega)]
    rfl
  | f + 1, s, g + 1, h1, h2 => by
    show (if s % 2 = 1 ∧ 1 < s then pz_str f (s / 2) else s) = (if s % 2 = 1 ∧ 1 < s then pz_str g (s / 2) else s)
    by_cases h : s % 2 = 1 ∧ 1 < s
    · rw [if_pos h, if_pos h]
      exact pz_str_ge (by omega) (by omega)
    · rw [if_neg h, if_neg h]
theorem pz_strip_even {s : Nat} (h : s % 2 = 0 ∨ s = 1) : pz_strip s = s := by
  unfold pz_strip
  cases s with
  | zero => rfl
  | succ s => show (if (s + 1) % 2 = 1 ∧ 1 < s + 1 then _ else _) = _; rw [if_neg (by omega)]
theorem pz_strip_odd {s : Nat} (h : 1 ≤ s) : pz_strip (2 * s + 1) = pz_strip s := by
  unfold pz_strip
  show (if (2 * s + 1) % 2 = 1 ∧ 1 < 2 * s + 1 then pz_str (2 * s) ((2 * s + 1) / 2) else _) = _
  rw [if_pos (by omega), show (2 * s + 1) / 2 = s by omega]
  exact pz_str_ge (by omega) (by omega)
theorem pz_dep_ge : ∀ {f s g : Nat}, s ≤ f → s ≤ g → pz_dep f s = pz_dep g s
  | 0, s, g, h1, h2 => by
    have : s = 0 := by omega
    subst this
    cases g with
    | zero => rfl
    | succ g => show _ = (if 1 < 0 then _ else 0); rw [if_neg (by omega)]; rfl
  | f + 1, s, 0, h1, h2 => by
    have : s = 0 := by omega
    subst this
    show (if 1 < 0 then _ else 0) = _
    rw [if_neg (by omega)]
    rfl
  | f + 1, s, g + 1, h1, h2 => by
    show (if 1 < s then pz_dep f (s / 2) + 1 else 0) = (if 1 < s then pz_dep g (s / 2) + 1 else 0)
    by_cases h : 1 < s
    · rw [if_pos h, if_pos h, pz_dep_ge (f := f) (g := g) (s := s / 2) (by omega) (by omega)]
    · rw [if_neg h, if_neg h]
theorem pz_dp_push {s x : Nat} (h : 1 ≤ s) (hx : x = 2 * s ∨ x = 2 * s + 1) : pz_dp x = pz_dp s + 1 := by
  unfold pz_dp
  obtain ⟨y, rfl⟩ : ∃ y, x = y + 1 := ⟨x - 1, by omega⟩
  show (if 1 < y + 1 then pz_dep y ((y + 1) / 2) + 1 else 0) = _
  rw [if_pos (by omega), show (y + 1) / 2 = s by omega, pz_dep_ge (f := y) (g := s) (by omega) (by omega)]
theorem pq_op (h : pz50 t N n AH PL KD VL sw ln ro rm un rt rom rk fa fp be fi) {S : Nat} (hm : pz7 t N n 9) (hs : pz90 t N n S) (hk : pz_op KD = true) : pz53 t N (n + 1) AH sw ln ro rm un rt rom rk fa fp be fi ∧ pz7 t N (n + 1) 8 ∧ pz90 t N (n + 1) S := by
  unfold pz50 pz53 pz7 pz90 pz_dt at *
  rw [pz_cf_s]
  generalize pz_cf t N n = c at *
  obtain ⟨md, p, no, ls, ⟨r, m, k⟩, u, s, o, a, b⟩ := c
  simp only [pz_md, pz_p, pz_no, pz_ls, pz_fr, pz_fm, pz_fk, pz_un, pz_s, pz_o, pz_ro, pz_rm] at *
  obtain ⟨h1, h2, h3, h4, e1, e2, e3, e4, e5, e6, e7, e8, e9, e10, e11⟩ := h
  subst hm hs h3
  have g : pz_kd t N p ≠ 41 := by
    intro z
    rw [z] at hk
    cases hk
  simp [pz_st, hk, g, h1, e1, e2, e3, e4, e5, e6, e7, e8, e9, e10]
  exact e11
theorem pq_sw1 (hm : pz7 t N n 0) (h0 : pz111 t N n) (hw : pz61 t N n 0) : pz64 t N n 1 := by
  unfold pz64 pz7 pz111 pz61 at *
  rw [pz_cf_s]
  generalize pz_cf t N n = c at *
  obtain ⟨md, p, no, ls, ⟨r, m, k⟩, u, s, o, a, b⟩ := c
  simp only [pz_md, pz_p, pz_no, pz_ls, pz_fr, pz_fm, pz_fk, pz_un, pz_s, pz_o, pz_ro, pz_rm] at *
  subst hm
  simp [pz_st, h0, hw]
theorem pq_sw2 (h : pz50 t N n AH PL KD VL sw ln ro rm un rt rom rk fa fp be fi) (hm : pz7 t N n 0) (hw : pz60 t N n 0) : pz53 t N (n + 1) AH sw ln ro rm un rt rom rk fa fp be fi ∧ pz7 t N (n + 1) 1 := by
  unfold pz50 pz53 pz7 pz60 pz_dt at *
  rw [pz_cf_s]
  generalize pz_cf t N n = c at *
  obtain ⟨md, p, no, ls, ⟨r, m, k⟩, u, s, o, a, b⟩ := c
  simp only [pz_md, pz_p, pz_no, pz_ls, pz_fr, pz_fm, pz_fk, pz_un, pz_s, pz_o, pz_ro, pz_rm] at *
  obtain ⟨h1, h2, h3, h4, e1, e2, e3, e4, e5, e6, e7, e8, e9, e10, e11⟩ := h
  subst hm
  have g := pz_wd1 hw
  simp [pz_st, hw, g, h1, e1, e2, e3, e4, e5, e6, e7, e8, e9, e10]
  exact e11
theorem pq_sw3 (h : pz50 t N n AH PL KD VL sw ln ro rm un rt rom rk fa fp be fi) {v : Nat} (hm : pz7 t N n 1) (hv : pz66 t N n v) (hl : 2 ≤ v) (hh : v ≤ 10) : pz53 t N (n + 1) AH v ln ro rm un rt rom rk fa fp be fi ∧ pz7 t N (n + 1) 2 := by
  unfold pz50 pz53 pz7 pz66 pz_dt at *
  rw [pz_cf_s]
  generalize pz_cf t N n = c at *
  obtain ⟨md, p, no, ls, ⟨r, m, k⟩, u, s, o, a, b⟩ := c
  simp only [pz_md, pz_p, pz_no, pz_ls, pz_fr, pz_fm, pz_fk, pz_un, pz_s, pz_o, pz_ro, pz_rm] at *
  obtain ⟨h1, h2, h3, h4, e1, e2, e3, e4, e5, e6, e7, e8, e9, e10, e11⟩ := h
  subst hm
  obtain ⟨g1, rfl⟩ := hv
  have g2 : ¬ (pz_vl t N p < 2 ∨ 10 < pz_vl t N p) := by omega
  simp only [pz_st, g1, g2]
  simp [h1, e1, e2, e3, e4, e5, e6, e7, e8, e9, e10]
  exact e11
theorem pq_rl_ro (h : pz50 t N n AH PL KD VL sw ln ro rm un rt rom rk fa fp be fi) (hm : pz7 t N n 3) (n1 : pz61 t N n 1)  (hw : pz60 t N n 2) (hf : rt = 0) : pz53 t N (n + 1) AH sw ln ro rm un 1 rom rk fa fp be fi ∧ pz7 t N (n + 1) 6 := by
  unfold pz50 pz53 pz7 pz60 pz61 pz_dt at *
  rw [pz_cf_s]
  generalize pz_cf t N n = c at *
  obtain ⟨md, p, no, ls, ⟨r, m, k⟩, u, s, o, a, b⟩ := c
  simp only [pz_md, pz_p, pz_no, pz_ls, pz_fr, pz_fm, pz_fk, pz_un, pz_s, pz_o, pz_ro, pz_rm] at *
  obtain ⟨h1, h2, h3, h4, e1, e2, e3, e4, e5, e6, e7, e8, e9, e10, e11⟩ := h
  subst hm
  have g := pz_wd1 hw
  have gf : r = false := by
    rw [e6] at hf
    cases r
    · rfl
    · cases hf
  simp only [pz_st, n1, g, gf, hw]
  simp [h1, e1, e2, e3, e4, e5, e7, e8, e9, e10]
  first | exact e11 | exact ⟨rfl, e11⟩ | exact ⟨by rfl, e11⟩
theorem pq_rl_rm (h : pz50 t N n AH PL KD VL sw ln ro rm un rt rom rk fa fp be fi) (hm : pz7 t N n 3) (n1 : pz61 t N n 1) (hw : pz60 t N n 3) (hf : rom = 0) : pz53 t N (n + 1) AH sw ln ro rm un rt 1 rk fa fp be fi ∧ pz7 t N (n + 1) 7 := by
  unfold pz50 pz53 pz7 pz60 pz61 pz_dt at *
  rw [pz_cf_s]
  generalize pz_cf t N n = c at *
  obtain ⟨md, p, no, ls, ⟨r, m, k⟩, u, s, o, a, b⟩ := c
  simp only [pz_md, pz_p, pz_no, pz_ls, pz_fr, pz_fm, pz_fk, pz_un, pz_s, pz_o, pz_ro, pz_rm] at *
  obtain ⟨h1, h2, h3, h4, e1, e2, e3, e4, e5, e6, e7, e8, e9, e10, e11⟩ := h
  subst hm
  have g := pz_wd1 hw
  have gf : m = false := by
    rw [e7] at hf
    cases m
    · rfl
    · cases hf
  have g2 : ¬ (pz_wd t N p 2 = true ∧ r = false) := by
    rintro ⟨z1, z2⟩
    exact pz_wdx (i := 3) (by decide) (by decide) (by decide) z1 hw
  simp only [pz_st, n1, g, gf, hw, g2]
  simp [h1, e1, e2, e3, e4, e5, e6, e8, e9, e10]
  first | exact e11 | exact ⟨rfl, e11⟩ | exact ⟨by rfl, e11⟩
theorem pq_rl_rk (h : pz50 t N n AH PL KD VL sw ln ro rm un rt rom rk fa fp be fi) (hm : pz7 t N n 3) (n1 : pz61 t N n 1) (hw : pz60 t N n 4) (hf : rk = 0) : pz53 t N (n + 1) AH sw ln ro rm un rt rom 1 fa fp be fi ∧ pz7 t N (n + 1) 8 ∧ pz90 t N (n + 1) 1 := by
  unfold pz50 pz53 pz7 pz60 pz61 pz90 pz_dt at *
  rw [pz_cf_s]
  generalize pz_cf t N n = c at *
  obtain ⟨md, p, no, ls, ⟨r, m, k⟩, u, s, o, a, b⟩ := c
  simp only [pz_md, pz_p, pz_no, pz_ls, pz_fr, pz_fm, pz_fk, pz_un, pz_s, pz_o, pz_ro, pz_rm] at *
  obtain ⟨h1, h2, h3, h4, e1, e2, e3, e4, e5, e6, e7, e8, e9, e10, e11⟩ := h
  subst hm
  have g := pz_wd1 hw
  have gf : k = false := by
    rw [e8] at hf
    cases k
    · rfl
    · cases hf
  have g2 : ¬ (pz_wd t N p 2 = true ∧ r = false) := by
    rintro ⟨z1, z2⟩
    exact pz_wdx (i := 1) (by decide) (by decide) (by decide) z1 hw
  have g3 : ¬ (pz_wd t N p 3 = true ∧ m = false) := by
    rintro ⟨z1, z2⟩
    exact pz_wdx (i := 1) (by decide) (by decide) (by decide) z1 hw
  simp only [pz_st, n1, g, gf, hw, g2, g3]
  simp [h1, e1, e2, e3, e4, e5, e6, e7, e9, e10]
  first | exact e11 | exact ⟨rfl, e11⟩ | exact ⟨by rfl, e11⟩
theorem pq_rl_ro2 (h : pz50 t N n AH PL KD VL sw ln ro rm un rt rom rk fa fp be fi) {v : Nat} (hm : pz7 t N n 6) (hv : pz104 t N n v) : pz53 t N (n + 1) AH sw ln v rm un rt rom rk fa fp be fi ∧ pz7 t N (n + 1) 2 := by
  unfold pz50 pz53 pz7 pz104 pz66 pz_dt at *
  rw [pz_cf_s]
  generalize pz_cf t N n = c at *
  obtain ⟨md, p, no, ls, ⟨r, m, k⟩, u, s, o, a, b⟩ := c
  simp only [pz_md, pz_p, pz_no, pz_ls, pz_fr, pz_fm, pz_fk, pz_un, pz_s, pz_o, pz_ro, pz_rm] at *
  obtain ⟨h1, h2, h3, h4, e1, e2, e3, e4, e5, e6, e7, e8, e9, e10, e11⟩ := h
  subst hm
  obtain ⟨⟨g1, rfl⟩, g3⟩ := hv
  have g2 : ¬ no ≤ pz_vl t N p := by omega
  simp only [pz_st, g1, g2]
  simp [h1, e1, e2, e3, e4, e5, e6, e7, e8, e9, e10]
  exact e11
theorem pq_rl_rm2 (h : pz50 t N n AH PL KD VL sw ln ro rm un rt rom rk fa fp be fi) {v : Nat} (hm : pz7 t N n 7) (hv : pz66 t N n v) (hl : 1 ≤ v) (hh : v ≤ 3) : pz53 t N (n + 1) AH sw ln ro v un rt rom rk fa fp be fi ∧ pz7 t N (n + 1) 2 := by
  unfold pz50 pz53 pz7 pz66 pz_dt at *
  rw [pz_cf_s]
  generalize pz_cf t N n = c at *
  obtain ⟨md, p, no, ls, ⟨r, m, k⟩, u, s, o, a, b⟩ := c
  simp only [pz_md, pz_p, pz_no, pz_ls, pz_fr, pz_fm, pz_fk, pz_un, pz_s, pz_o, pz_ro, pz_rm] at *
  obtain ⟨h1, h2, h3, h4, e1, e2, e3, e4, e5, e6, e7, e8, e9, e10, e11⟩ := h
  subst hm
  obtain ⟨g1, rfl⟩ := hv
  have g2 : ¬ (pz_vl t N p < 1 ∨ 3 < pz_vl t N p) := by omega
  simp only [pz_st, g1, g2]
  simp [h1, e1, e2, e3, e4, e5, e6, e7, e8, e9, e10]
  exact e11
theorem pq_rl_f (h : pz50 t N n AH PL KD VL sw ln ro rm un rt rom rk fa fp be fi) (hm : pz7 t N n 3) (h0 : pz111 t N n) (n1 : pz61 t N n 1) (n2 : pz61 t N n 2 ∨ rt = 1) (n3 : pz61 t N n 3 ∨ rom = 1) (n4 : pz61 t N n 4 ∨ rk = 1) : pz64 t N n 1 := by
  unfold pz64 pz50 pz7 pz111 pz61 pz_dt at *
  rw [pz_cf_s]
  generalize pz_cf t N n = c at *
  obtain ⟨md, p, no, ls, ⟨r, m, k⟩, u, s, o, a, b⟩ := c
  simp only [pz_md, pz_p, pz_no, pz_ls, pz_fr, pz_fm, pz_fk, pz_un, pz_s, pz_o, pz_ro, pz_rm] at *
  obtain ⟨h1, h2, h3, h4, e1, e2, e3, e4, e5, e6, e7, e8, e9, e10, e11⟩ := h
  subst hm
  have g2 : ¬ (pz_wd t N p 2 = true ∧ r = false) := by
    rintro ⟨z1, z2⟩
    rcases n2 with z | z
    · rw [z1] at z; cases z
    · rw [e6, z2] at z; cases z
  have g3 : ¬ (pz_wd t N p 3 = true ∧ m = false) := by
    rintro ⟨z1, z2⟩
    rcases n3 with z | z
    · rw [z1] at z; cases z
    · rw [e7, z2] at z; cases z
  have g4 : ¬ (pz_wd t N p 4 = true ∧ k = false) := by
    rintro ⟨z1, z2⟩
    rcases n4 with z | z
    · rw [z1] at z; cases z
    · rw [e8, z2] at z; cases z
  simp only [pz_st, n1, g2, g3, g4, h0]
  simp
theorem pq_lk1 (h : pz50 t N n AH PL KD VL sw ln ro rm un rt rom rk fa fp be fi) (hm : pz7 t N n 3) (hw : pz60 t N n 1) (hl : ln = 20) : pz64 t N n 4 := by
  unfold pz64 pz50 pz7 pz60 pz_dt at *
  rw [pz_cf_s]
  generalize pz_cf t N n = c at *
  obtain ⟨md, p, no, ls, ⟨r, m, k⟩, u, s, o, a, b⟩ := c
  simp only [pz_md, pz_p, pz_no, pz_ls, pz_fr, pz_fm, pz_fk, pz_un, pz_s, pz_o, pz_ro, pz_rm] at *
  obtain ⟨h1, h2, h3, h4, e1, e2, e3, e4, e5, e6, e7, e8, e9, e10, e11⟩ := h
  subst hm
  have g := pz_wd1 hw
  have g2 : ls.length = 20 := by omega
  simp [pz_st, hw, g, g2]
theorem pq_lk2 (h : pz50 t N n AH PL KD VL sw ln ro rm un rt rom rk fa fp be fi) (hm : pz7 t N n 3) (hw : pz60 t N n 1) (hl : ln ≤ 19) : pz53 t N (n + 1) AH sw ln ro rm un rt rom rk fa fp be fi ∧ pz7 t N (n + 1) 4 := by
  unfold pz50 pz53 pz7 pz60 pz_dt at *
  rw [pz_cf_s]
  generalize pz_cf t N n = c at *
  obtain ⟨md, p, no, ls, ⟨r, m, k⟩, u, s, o, a, b⟩ := c
  simp only [pz_md, pz_p, pz_no, pz_ls, pz_fr, pz_fm, pz_fk, pz_un, pz_s, pz_o, pz_ro, pz_rm] at *
  obtain ⟨h1, h2, h3, h4, e1, e2, e3, e4, e5, e6, e7, e8, e9, e10, e11⟩ := h
  subst hm
  have g := pz_wd1 hw
  have g2 : ¬ ls.length = 20 := by omega
  simp [pz_st, hw, g, g2, h1, e1, e2, e3, e4, e5, e6, e7, e8, e9, e10]
  exact e11
theorem pq_lk4 (h : pz50 t N n AH PL KD VL sw ln ro rm un rt rom rk fa fp be fi) {v : Nat} (hm : pz7 t N n 4) (hv : pz104 t N n v) : pz53 t N (n + 1) AH sw ln ro rm un rt rom rk fa fp be fi ∧ pz7 t N (n + 1) 5 ∧ pz67 t N (n + 1) v := by
  unfold pz50 pz53 pz7 pz104 pz66 pz67 pz_dt at *
  rw [pz_cf_s]
  generalize pz_cf t N n = c at *
  obtain ⟨md, p, no, ls, ⟨r, m, k⟩, u, s, o, a, b⟩ := c
  simp only [pz_md, pz_p, pz_no, pz_ls, pz_fr, pz_fm, pz_fk, pz_un, pz_s, pz_o, pz_ro, pz_rm] at *
  obtain ⟨h1, h2, h3, h4, e1, e2, e3, e4, e5, e6, e7, e8, e9, e10, e11⟩ := h
  subst hm
  obtain ⟨⟨g1, rfl⟩, g3⟩ := hv
  have g2 : ¬ no ≤ pz_vl t N p := by omega
  simp only [pz_st, g1, g2]
  simp [h1, e1, e2, e3, e4, e5, e6, e7, e8, e9, e10]
  exact e11
theorem pq_lk5 {v : Nat} (hm : pz7 t N n 5) (ho : pz67 t N n v) (hv : pz104 t N n v) : pz64 t N n 2 := by
  unfold pz64 pz7 pz67 pz104 pz66 at *
  rw [pz_cf_s]
  generalize pz_cf t N n = c at *
  obtain ⟨md, p, no, ls, ⟨r, m, k⟩, u, s, o, a, b⟩ := c
  simp only [pz_md, pz_p, pz_no, pz_ls, pz_fr, pz_fm, pz_fk, pz_un, pz_s, pz_o, pz_ro, pz_rm] at *
  subst hm ho
  obtain ⟨⟨g1, g2⟩, g3⟩ := hv
  simp [pz_st, g1, g2]
theorem pq_lk6 {v o1 : Nat} (hm : pz7 t N n 5) (ho : pz67 t N n o1) (hv : pz104 t N n v) (hne : v ≠ o1) (hj : pz112 t N n o1 v) : pz64 t N n 3 := by
  unfold pz64 pz7 pz67 pz104 pz66 pz112 at *
  rw [pz_cf_s]
  generalize pz_cf t N n = c at *
  obtain ⟨md, p, no, ls, ⟨r, m, k⟩, u, s, o, a, b⟩ := c
  simp only [pz_md, pz_p, pz_no, pz_ls, pz_fr, pz_fm, pz_fk, pz_un, pz_s, pz_o, pz_ro, pz_rm] at *
  subst hm ho
  obtain ⟨⟨g1, rfl⟩, g3⟩ := hv
  have g2 : ¬ (no ≤ pz_vl t N p ∨ pz_vl t N p = o) := by omega
  simp only [pz_st, g1, g2, hj]
  simp
theorem pq_al {o1 v : Nat} {be' fi' : Nat → Option Nat} (h : pz50 t N n AH PL KD VL sw ln ro rm un rt rom rk fa fp be fi) (hm : pz7 t N n 5) (ho : pz67 t N n o1) (hv : pz104 t N n v) (hne : v ≠ o1) (hj : pz113 t N n o1 v)
    (b1 : ∀ j, j < 2 * ln → be' j = be j) (b2 : ∀ j, j < 2 * ln → fi' j = fi j) (b3 : be' (2 * ln) = some (4 * o1)) (b4 : fi' (2 * ln) = some (4 * v)) (b5 : be' (2 * ln + 1) = some (4 * v)) (b6 : fi' (2 * ln + 1) = some (4 * o1)) : pz53 t N (n + 1) AH sw (ln + 1) ro rm un rt rom rk fa fp be' fi' ∧ pz7 t N (n + 1) 2 := by
  unfold pz50 pz53 pz7 pz67 pz104 pz66 pz113 pz_dt at *
  rw [pz_cf_s]
  generalize pz_cf t N n = c at *
  obtain ⟨md, p, no, ls, ⟨r, m, k⟩, u, s, o, a, b⟩ := c
  simp only [pz_md, pz_p, pz_no, pz_ls, pz_fr, pz_fm, pz_fk, pz_un, pz_s, pz_o, pz_ro, pz_rm] at *
  obtain ⟨h1, h2, h3, h4, e1, e2, e3, e4, e5, e6, e7, e8, e9, e10, e11⟩ := h
  subst hm ho
  obtain ⟨⟨g1, rfl⟩, g3⟩ := hv
  have g2 : ¬ (no ≤ pz_vl t N p ∨ pz_vl t N p = o) := by omega
  simp only [pz_st, g1, g2, hj]
  simp [h1, e1, e2, e3, e4, e5, e6, e7, e8, e9, e10]
  intro l x y hl
  by_cases hlt : l < ls.length
  · rw [List.getElem?_append_left hlt] at hl
    obtain ⟨c1, c2, c3, c4⟩ := e11 l x y hl
    rw [b1 _ (by omega), b2 _ (by omega), b1 _ (by omega), b2 _ (by omega)]
    exact ⟨c1, c2, c3, c4⟩
  · have hl2 := (List.getElem?_eq_some_iff.mp hl).1
    rw [List.length_append] at hl2
    have hl3 : l = ls.length := by have : [(o, pz_vl t N p)].length = 1 := rfl; omega
    subst hl3
    rw [List.getElem?_append_right (Nat.le_refl _), Nat.sub_self] at hl
    cases hl
    rw [← e2]
    exact ⟨b3, b4, b5, b6⟩
theorem pq_rt2 (h : pz50 t N n AH PL KD VL sw ln ro rm un rt rom rk fa fp be fi) (hm : pz7 t N n 0) (hk : KD = 0) : pz110 t N sw ln ro rm un rt rom rk fa fp be fi := by
  refine ⟨n + 1, ?_⟩
  unfold pz50 pz7 pz_dt at *
  rw [pz_cf_s]
  generalize pz_cf t N n = c at *
  obtain ⟨md, p, no, ls, ⟨r, m, k⟩, u, s, o, a, b⟩ := c
  simp only [pz_md, pz_p, pz_no, pz_ls, pz_fr, pz_fm, pz_fk, pz_un, pz_s, pz_o, pz_ro, pz_rm] at *
  obtain ⟨h1, h2, h3, h4, e1, e2, e3, e4, e5, e6, e7, e8, e9, e10, e11⟩ := h
  subst hm
  have g : pz_kd t N p = 0 := by omega
  simp [pz_st, g, e1, e2, e3, e4, e5, e6, e7, e8, e9, e10]
  exact e11
theorem pq_rt8 (h : pz50 t N n AH PL KD VL sw ln ro rm un rt rom rk fa fp be fi) (hm : pz7 t N n 3) (hk : KD = 0) : pz110 t N sw ln ro rm un rt rom rk fa fp be fi := by
  refine ⟨n + 1, ?_⟩
  unfold pz50 pz7 pz_dt at *
  rw [pz_cf_s]
  generalize pz_cf t N n = c at *
  obtain ⟨md, p, no, ls, ⟨r, m, k⟩, u, s, o, a, b⟩ := c
  simp only [pz_md, pz_p, pz_no, pz_ls, pz_fr, pz_fm, pz_fk, pz_un, pz_s, pz_o, pz_ro, pz_rm] at *
  obtain ⟨h1, h2, h3, h4, e1, e2, e3, e4, e5, e6, e7, e8, e9, e10, e11⟩ := h
  subst hm
  have g : pz_kd t N p = 0 := by omega
  simp [pz_st, g, e1, e2, e3, e4, e5, e6, e7, e8, e9, e10]
  exact e11
theorem pq_rt1 {be fi : Nat → Option Nat} : pz53 t N 0 0 0 0 0 1 0 0 0 0 0 4294967295 be fi ∧ pz7 t N 0 0 :=
  ⟨⟨rfl, rfl, rfl, rfl, rfl, rfl, rfl, rfl, rfl, rfl, rfl, fun l a b h => by cases h⟩, rfl⟩
/-- the place rises -/
theorem pz_nx_gt {p : Nat} (h : pz_kd t N p ≠ 0) : p + 1 ≤ pz_nx t N p := by
  have ha : p ≤ pz_at t N p := pz_e_ge
  have hN : ¬ N ≤ pz_at t N p := by
    intro z
    unfold pz_kd at h
    rw [if_pos z] at h
    exact h rfl
  unfold pz_nx
  rw [if_neg hN]
  by_cases hl : pz_lt (pz_b t (pz_at t N p)) = true
  · rw [if_pos hl, pz_e_on (by omega) hl]
    have := pz_e_ge (P := pz_lt) (t := t) (N := N) (p := pz_at t N p + 1)
    omega
  · rw [if_neg hl]
    by_cases hd : pz_dg (pz_b t (pz_at t N p)) = true
    · rw [if_pos hd, pz_e_on (by omega) hd]
      have := pz_e_ge (P := pz_dg) (t := t) (N := N) (p := pz_at t N p + 1)
      omega
    · rw [if_neg hd]
      omega
theorem pz_end {p : Nat} (h : N ≤ p) : pz_kd t N p = 0 := by
  have ha : p ≤ pz_at t N p := pz_e_ge
  unfold pz_kd
  rw [if_pos (by omega)]
def pz_Q (p : Nat) (c : pz_C) : Prop := (pz_md c ≤ 9 ∧ p + 1 ≤ pz_p c) ∨ pz_md c = 20 ∨ pz_md c = 21
theorem pz_ite {Q : pz_C → Prop} {c : Prop} [Decidable c] {x y : pz_C} (h1 : c → Q x) (h2 : ¬ c → Q y) : Q (if c then x else y) := by
  by_cases h : c
  · rw [if_pos h]; exact h1 h
  · rw [if_neg h]; exact h2 h
theorem pz_st_p {c : pz_C} (hc : pz_md c ≤ 9) : pz_Q (pz_p c) (pz_st t N c) := by
  obtain ⟨md, p, no, ls, ⟨r, m, k⟩, u, s, o, a, b⟩ := c
  replace hc : md ≤ 9 := hc
  have hw : ∀ j, pz_wd t N p j = true → p + 1 ≤ pz_nx t N p := fun j hj => pz_nx_gt (by rw [pz_wd1 hj]; decide)
  have hg : pz_kd t N p ≠ 0 → p + 1 ≤ pz_nx t N p := pz_nx_gt
  have hop : pz_op (pz_kd t N p) = true → p + 1 ≤ pz_nx t N p := fun z => pz_nx_gt (by intro y; rw [y] at z; cases z)
  have hfl : ∀ x y, pz_Q p (pz_fl x y) := fun _ _ => Or.inr (Or.inr rfl)
  have hn : ∀ (x : Nat) (y : Nat × List (Nat × Nat) × (Bool × Bool × Bool) × Nat × Nat × Nat × Nat × Nat), x ≤ 9 → p + 1 ≤ pz_nx t N p → pz_Q p (x, pz_nx t N p, y) := fun _ _ h1 h2 => Or.inl ⟨h1, h2⟩
  show pz_Q p (pz_st t N (md, p, no, ls, (r, m, k), u, s, o, a, b))
  unfold pz_st
  dsimp only
  refine pz_ite (fun _ => ?_) (fun _ => ?_)
  · exact pz_ite (fun _ => Or.inr (Or.inl rfl)) (fun h0 => pz_ite (fun _ => hn _ _ (by decide) (hg h0)) (fun _ => hfl _ _))
  refine pz_ite (fun _ => ?_) (fun _ => ?_)
  · exact pz_ite (fun _ => hfl _ _) (fun h0 => pz_ite (fun _ => hfl _ _) (fun _ => hn _ _ (by decide) (hg (by omega))))
  refine pz_ite (fun _ => ?_) (fun _ => ?_)
  · exact pz_ite (fun _ => hfl _ _) (fun h0 => hn _ _ (by decide) (hg (by omega)))
  refine pz_ite (fun _ => ?_) (fun _ => ?_)
  · exact pz_ite (fun _ => Or.inr (Or.inl rfl)) (fun h0 => pz_ite (fun _ => pz_ite (fun _ => hfl _ _) (fun _ => hn _ _ (by decide) (hg h0))) (fun _ => pz_ite (fun _ => hn _ _ (by decide) (hg h0)) (fun _ => pz_ite (fun _ => hn _ _ (by decide) (hg h0)) (fun _ => pz_ite (fun _ => hn _ _ (by decide) (hg h0)) (fun _ => hfl _ _)))))
  refine pz_ite (fun _ => ?_) (fun _ => ?_)
  · exact pz_ite (fun _ => hfl _ _) (fun h0 => pz_ite (fun _ => hfl _ _) (fun _ => hn _ _ (by decide) (hg (by omega))))
  refine pz_ite (fun _ => ?_) (fun _ => ?_)
  · exact pz_ite (fun _ => hfl _ _) (fun h0 => pz_ite (fun _ => hfl _ _) (fun _ => pz_ite (fun _ => hfl _ _) (fun _ => hn _ _ (by decide) (hg (by omega)))))
  refine pz_ite (fun _ => ?_) (fun _ => ?_)
  · exact pz_ite (fun _ => hfl _ _) (fun h0 => pz_ite (fun _ => hfl _ _) (fun _ => hn _ _ (by decide) (hg (by omega))))
  refine pz_ite (fun _ => ?_) (fun _ => ?_)
  · exact pz_ite (fun _ => hfl _ _) (fun h0 => pz_ite (fun _ => hfl _ _) (fun _ => hn _ _ (by decide) (hg (by omega))))
  refine pz_ite (fun _ => ?_) (fun _ => ?_)
  · refine pz_ite (fun _ => hfl _ _) (fun h0 => pz_ite (fun _ => hfl _ _) (fun _ => pz_ite (fun _ => hfl _ _) (fun _ => ?_)))
    have h1 : p + 1 ≤ pz_nx t N p := by
      rcases Classical.not_not.mp h0 with z | z | z | z | z | z
      · exact hg (by omega)
      · exact hg (by omega)
      · exact hg (by omega)
      · exact hw _ z
      · exact hw _ z
      · exact hw _ z
    exact pz_ite (fun _ => hn _ _ (by decide) h1) (fun _ => pz_ite (fun _ => hn _ _ (by decide) h1) (fun _ => hn _ _ (by decide) h1))
  refine pz_ite (fun _ => ?_) (fun _ => ?_)
  · exact pz_ite (fun h0 => hn _ _ (by decide) (hg (by omega))) (fun _ => pz_ite (fun h0 => hn _ _ (by decide) (hop h0)) (fun _ => pz_ite (fun _ => hfl _ _) (fun _ => pz_ite (fun _ => hfl _ _) (fun h0 => hn _ _ (by decide) (hg (by omega))))))
  · exfalso; omega
theorem pz_p_ge : ∀ n, (pz_md (pz_cf t N n) ≤ 9 ∧ n ≤ pz_p (pz_cf t N n)) ∨ pz_md (pz_cf t N n) = 20 ∨ pz_md (pz_cf t N n) = 21
  | 0 => Or.inl ⟨Nat.zero_le 9, Nat.zero_le _⟩
  | n + 1 => by
    rcases pz_p_ge n with ⟨h1, h2⟩ | h | h
    · rcases pz_st_p (t := t) (N := N) h1 with ⟨g1, g2⟩ | g
      · exact Or.inl ⟨g1, by rw [pz_cf_s]; omega⟩
      · exact Or.inr g
    · rw [pz_fin (Or.inl h) 1]; exact Or.inr (Or.inl h)
    · rw [pz_fin (Or.inr h) 1]; exact Or.inr (Or.inr h)
/-- far enough: the end -/
theorem pq_far {M : Nat} (hm : pz7 t N n M) (hM : M ≤ 9) (hN : N ≤ 800) (hn : 800 ≤ n) : pz_kd t N (pz_p (pz_cf t N n)) = 0 := by
  unfold pz7 at hm
  rcases pz_p_ge (t := t) (N := N) n with ⟨h1, h2⟩ | h | h
  · exact pz_end (by omega)
  · omega
  · omega
end PKN
theorem pz_mc {x v : Nat} (h : pz_m x = v) : (x ≤ 1000 ∧ v = x) ∨ (1000 < x ∧ v = 1000) := by
  unfold pz_m at h
  by_cases h1 : x ≤ 1000
  · rw [if_pos h1] at h; exact Or.inl ⟨h1, h.symm⟩
  · rw [if_neg h1] at h; exact Or.inr ⟨by omega, h.symm⟩
theorem pz_op_no {k : Nat} (h1 : k ≠ 43) (h2 : k ≠ 45) (h3 : k ≠ 42 ∧ k ≠ 47 ∧ k ≠ 37) : pz_op k = false := by
  unfold pz_op
  obtain ⟨h3, h4, h5⟩ := h3
  simp [h1, h2, h3, h4, h5]
theorem pz_is_no {t N p : Nat} {w : List Nat} (h : pz_kd t N p ≠ 1 ∨ pz_nx t N p - pz_at t N p ≠ w.length ∨ ∃ i, i < w.length ∧ pz_b t (pz_at t N p + i) ≠ w.getD i 0) : pz_is t N p w = false := by
  cases e : pz_is t N p w with
  | false => rfl
  | true =>
    exfalso
    unfold pz_is at e
    obtain ⟨e1, e2⟩ := Bool.and_eq_true_iff.mp e
    obtain ⟨e2, e3⟩ := Bool.and_eq_true_iff.mp e2
    rcases h with h | h | ⟨i, h1, h2⟩
    · exact h (eq_of_beq e1)
    · exact h (eq_of_beq e2)
    · exact h2 (eq_of_beq (List.all_eq_true.mp e3 i (List.mem_range.mpr h1)))
theorem pz_is_yes {t N p : Nat} {w : List Nat} (h1 : pz_kd t N p = 1) (h2 : pz_nx t N p - pz_at t N p = w.length) (h3 : ∀ i, i < w.length → pz_b t (pz_at t N p + i) = w.getD i 0) : pz_is t N p w = true := by
  unfold pz_is
  rw [h1, h2]
  refine Bool.and_eq_true_iff.mpr ⟨rfl, Bool.and_eq_true_iff.mpr ⟨beq_self_eq_true _, List.all_eq_true.mpr (fun i hi => ?_)⟩⟩
  exact beq_iff_eq.mpr (h3 i (List.mem_range.mp hi))
theorem pz_str_1 : ∀ {f s : Nat}, 1 ≤ s → 1 ≤ pz_str f s
  | 0, _, h => h
  | f + 1, s, h => by
    show 1 ≤ (if s % 2 = 1 ∧ 1 < s then pz_str f (s / 2) else s)
    by_cases h1 : s % 2 = 1 ∧ 1 < s
    · rw [if_pos h1]; exact pz_str_1 (by omega)
    · rw [if_neg h1]; exact h
theorem pz_strip_1 {s : Nat} (h : 1 ≤ s) : 1 ≤ pz_strip s := pz_str_1 h
theorem pz_jn_no {ls : List (Nat × Nat)} {a b : Nat} (h : ∀ (j x y : Nat), ls[j]? = some (x, y) → ¬ (x = a ∧ y = b) ∧ ¬ (y = a ∧ x = b)) : pz_jn ls a b = false := by
  cases e : pz_jn ls a b with
  | false => rfl
  | true =>
    exfalso
    obtain ⟨⟨x, y⟩, h1, h2⟩ := List.any_eq_true.mp e
    obtain ⟨j, hj⟩ := List.getElem?_of_mem h1
    obtain ⟨g1, g2⟩ := h j x y hj
    rcases Bool.or_eq_true_iff.mp h2 with z | z
    · obtain ⟨z1, z2⟩ := Bool.and_eq_true_iff.mp z
      exact g1 ⟨eq_of_beq z1, eq_of_beq z2⟩
    · obtain ⟨z1, z2⟩ := Bool.and_eq_true_iff.mp z
      exact g2 ⟨eq_of_beq z2, eq_of_beq z1⟩
theorem pz_jn_yes {ls : List (Nat × Nat)} {a b j x y : Nat} (hl : ls[j]? = some (x, y)) (h : (x = a ∧ y = b) ∨ (y = a ∧ x = b)) : pz_jn ls a b = true := by
  refine List.any_eq_true.mpr ⟨(x, y), List.mem_of_getElem? hl, ?_⟩
  rcases h with ⟨rfl, rfl⟩ | ⟨rfl, rfl⟩
  · exact Bool.or_eq_true_iff.mpr (Or.inl (Bool.and_eq_true_iff.mpr ⟨beq_self_eq_true _, beq_self_eq_true _⟩))
  · exact Bool.or_eq_true_iff.mpr (Or.inr (Bool.and_eq_true_iff.mpr ⟨beq_self_eq_true _, beq_self_eq_true _⟩))
theorem pz_dt_x {c : pz_C} {sw ln ro rm un rt rom rk fa fp : Nat} {be fi be' fi' : Nat → Option Nat} (h : pz_dt c sw ln ro rm un rt rom rk fa fp be fi) (h1 : ∀ j, j < 2 * ln → be' j = be j) (h2 : ∀ j, j < 2 * ln → fi' j = fi j) : pz_dt c sw ln ro rm un rt rom rk fa fp be' fi' := by
  obtain ⟨e1, e2, e3, e4, e5, e6, e7, e8, e9, e10, e11⟩ := h
  refine ⟨e1, e2, e3, e4, e5, e6, e7, e8, e9, e10, fun l a b hl => ?_⟩
  have hlt := (List.getElem?_eq_some_iff.mp hl).1
  obtain ⟨c1, c2, c3, c4⟩ := e11 l a b hl
  rw [h1 _ (by omega), h2 _ (by omega), h1 _ (by omega), h2 _ (by omega)]
  exact ⟨c1, c2, c3, c4⟩

/-! A token is loaded -/
theorem pz_kd_end {t N p : Nat} (h : N ≤ pz_at t N p) : pz_kd t N p = 0 ∧ pz_nx t N p = pz_at t N p := by
  unfold pz_kd pz_nx
  rw [if_pos h, if_pos h]
  exact ⟨rfl, rfl⟩
theorem pz_kd_wd {t N p : Nat} (h : pz_at t N p < N) (hb : pz_lt (pz_b t (pz_at t N p)) = true) : pz_kd t N p = 1 ∧ pz_nx t N p = pz_e pz_lt t N (pz_at t N p + 1) := by
  refine ⟨?_, ?_⟩
  · unfold pz_kd
    rw [if_neg (by omega), if_pos hb]
  · unfold pz_nx
    rw [if_neg (by omega), if_pos hb, pz_e_on h hb]
theorem pz_dg_lt {c : Nat} (h : pz_dg c = true) : pz_lt c = false := by
  unfold pz_dg pz_lt at *
  have h1 := of_decide_eq_true (Bool.and_eq_true_iff.mp h).2
  rw [decide_eq_false (show ¬ 97 ≤ c by omega)]
  rfl
theorem pz_kd_nm {t N p : Nat} (h : pz_at t N p < N) (hb : pz_dg (pz_b t (pz_at t N p)) = true) : pz_kd t N p = 2 ∧ pz_nx t N p = pz_e pz_dg t N (pz_at t N p + 1) ∧ pz_vl t N p = pz_n t N (pz_at t N p + 1) (pz_m (pz_b t (pz_at t N p) - 48)) := by
  have hl := pz_dg_lt hb
  refine ⟨?_, ?_, ?_⟩
  · unfold pz_kd
    rw [if_neg (by omega), hl, if_neg (by decide), if_pos hb]
  · unfold pz_nx
    rw [if_neg (by omega), hl, if_neg (by decide), if_pos hb, pz_e_on h hb]
  · unfold pz_vl
    rw [pz_n_on h hb, Nat.mul_zero, Nat.zero_add]
theorem pz_kd_sg {t N p : Nat} (h : pz_at t N p < N) (h1 : pz_lt (pz_b t (pz_at t N p)) = false) (h2 : pz_dg (pz_b t (pz_at t N p)) = false) : pz_kd t N p = (if pz_sg (pz_b t (pz_at t N p)) then pz_b t (pz_at t N p) else 3) ∧ pz_nx t N p = pz_at t N p + 1 := by
  refine ⟨?_, ?_⟩
  · unfold pz_kd
    rw [if_neg (by omega), h1, h2, if_neg (by decide), if_neg (by decide)]
  · unfold pz_nx
    rw [if_neg (by omega), h1, h2, if_neg (by decide), if_neg (by decide)]
theorem pz_lt_yes {c : Nat} (h1 : 97 ≤ c) (h2 : c ≤ 122) : pz_lt c = true := by
  unfold pz_lt
  rw [decide_eq_true h1, decide_eq_true h2]
  rfl
theorem pz_lt_no {c : Nat} (h : c < 97 ∨ 122 < c) : pz_lt c = false := by
  unfold pz_lt
  rcases h with h | h
  · rw [decide_eq_false (show ¬ 97 ≤ c by omega)]; rfl
  · rw [decide_eq_false (show ¬ c ≤ 122 by omega), Bool.and_false]
theorem pz_dg_yes {c : Nat} (h1 : 48 ≤ c) (h2 : c ≤ 57) : pz_dg c = true := by
  unfold pz_dg
  rw [decide_eq_true h1, decide_eq_true h2]
  rfl
theorem pz_dg_no {c : Nat} (h : c < 48 ∨ 57 < c) : pz_dg c = false := by
  unfold pz_dg
  rcases h with h | h
  · rw [decide_eq_false (show ¬ 48 ≤ c by omega)]; rfl
  · rw [decide_eq_false (show ¬ c ≤ 57 by omega), Bool.and_false]
theorem pz_bl_no {c : Nat} (h1 : c ≠ 32) (h2 : c ≠ 10) : pz_bl c = false := by
  unfold pz_bl
  simp [h1, h2]
theorem pz_sg_no {c : Nat} (h1 : c ≠ 59) (h2 : c ≠ 40) (h3 : c ≠ 41) (h4 : c ≠ 43) (h5 : c ≠ 45) (h6 : c ≠ 42) (h7 : c ≠ 47) (h8 : c ≠ 37) : pz_sg c = false := by
  unfold pz_sg
  simp [h1, h2, h3, h4, h5, h6, h7, h8]

/-! What the class's named facts say of the heap -/
abbrev pz_gt (g : Nat) : Nat := g / 4 / 1024
abbrev pz_gN (g : Nat) : Nat := g / 4 % 1024
abbrev pz_cF (g n : Nat) : pz_C := pz_cf (pz_gt g) (pz_gN g) (n / 4)
noncomputable def pz_x30 (g : Nat) (sz : Option Nat) (tp : Nat → Option Nat) : Prop := ay_ln sz = pz_gN g ∧ pz_gN g ≤ 800 ∧ ∀ j, j < pz_gN g → tp j = some (4 * pz_b (pz_gt g) j)
noncomputable def pz_x31 (be fi op od : Option Nat) : Prop := be = some 54 ∧ fi = some 58 ∧ op = some 70 ∧ od = some 74
noncomputable def pz_xd (g n : Nat) (sw ln ro rm un rt rom rk fa fp : Option Nat) (be fi : Nat → Option Nat) : Prop := pz_dt (pz_cF g n) (ay_ln sw) (ay_ln ln) (ay_ln ro) (ay_ln rm) (ay_ln un) (ay_ln rt) (ay_ln rom) (ay_ln rk) (ay_ln fa) (ay_ln fp) be fi
noncomputable def pz_x53 (g n : Nat) (ah sw ln ro rm un rt rom rk fa fp : Option Nat) (be fi : Nat → Option Nat) : Prop := pz_at (pz_gt g) (pz_gN g) (ay_ln ah) = pz_at (pz_gt g) (pz_gN g) (pz_p (pz_cF g n)) ∧ pz_xd g n sw ln ro rm un rt rom rk fa fp be fi
noncomputable def pz_x50 (g n : Nat) (ah pl kd vl sw ln ro rm un rt rom rk fa fp : Option Nat) (be fi : Nat → Option Nat) : Prop := pz50 (pz_gt g) (pz_gN g) (n / 4) (ay_ln ah) (ay_ln pl) (ay_ln kd) (ay_ln vl) (ay_ln sw) (ay_ln ln) (ay_ln ro) (ay_ln rm) (ay_ln un) (ay_ln rt) (ay_ln rom) (ay_ln rk) (ay_ln fa) (ay_ln fp) be fi
noncomputable def pz_x54 (g n : Nat) (ah pl sw ln ro rm un rt rom rk fa fp : Option Nat) (be fi : Nat → Option Nat) : Prop := ay_ln pl = pz_at (pz_gt g) (pz_gN g) (pz_p (pz_cF g n)) ∧ ay_ln ah = ay_ln pl ∧ pz_xd g n sw ln ro rm un rt rom rk fa fp be fi
noncomputable def pz_x55 (g n : Nat) (ah pl sw ln ro rm un rt rom rk fa fp : Option Nat) (be fi : Nat → Option Nat) : Prop := ay_ln pl = pz_at (pz_gt g) (pz_gN g) (pz_p (pz_cF g n)) ∧ ay_ln ah = ay_ln pl + 1 ∧ ay_ln pl < pz_gN g ∧ pz_xd g n sw ln ro rm un rt rom rk fa fp be fi
noncomputable def pz_x56 (g n : Nat) (ah pl kd sw ln ro rm un rt rom rk fa fp : Option Nat) (be fi : Nat → Option Nat) : Prop := ay_ln pl = pz_at (pz_gt g) (pz_gN g) (pz_p (pz_cF g n)) ∧ ay_ln kd = 1 ∧ pz_kd (pz_gt g) (pz_gN g) (pz_p (pz_cF g n)) = 1 ∧ pz_e pz_lt (pz_gt g) (pz_gN g) (ay_ln ah) = pz_nx (pz_gt g) (pz_gN g) (pz_p (pz_cF g n)) ∧ pz_xd g n sw ln ro rm un rt rom rk fa fp be fi
noncomputable def pz_x57 (g n : Nat) (ah pl kd sw ln ro rm un rt rom rk fa fp : Option Nat) (be fi : Nat → Option Nat) : Prop := ay_ln pl = pz_at (pz_gt g) (pz_gN g) (pz_p (pz_cF g n)) ∧ ay_ln ah = ay_ln pl + 1 ∧ ay_ln pl < pz_gN g ∧ ay_ln kd = 2 ∧ pz_kd (pz_gt g) (pz_gN g) (pz_p (pz_cF g n)) = 2 ∧ pz_xd g n sw ln ro rm un rt rom rk fa fp be fi
noncomputable def pz_x58 (g n : Nat) (ah pl kd vl sw ln ro rm un rt rom rk fa fp : Option Nat) (be fi : Nat → Option Nat) : Prop := ay_ln pl = pz_at (pz_gt g) (pz_gN g) (pz_p (pz_cF g n)) ∧ ay_ln kd = 2 ∧ pz_kd (pz_gt g) (pz_gN g) (pz_p (pz_cF g n)) = 2 ∧ pz_e pz_dg (pz_gt g) (pz_gN g) (ay_ln ah) = pz_nx (pz_gt g) (pz_gN g) (pz_p (pz_cF g n)) ∧ pz_n (pz_gt g) (pz_gN g) (ay_ln ah) (pz_m (ay_ln vl)) = pz_vl (pz_gt g) (pz_gN g) (pz_p (pz_cF g n)) ∧ pz_xd g n sw ln ro rm un rt rom rk fa fp be fi
noncomputable def pz_x59 (g n : Nat) (ah pl kd vl sw ln ro rm un rt rom rk fa fp : Option Nat) (be fi : Nat → Option Nat) : Prop := ay_ln pl = pz_at (pz_gt g) (pz_gN g) (pz_p (pz_cF g n)) ∧ ay_ln kd = 2 ∧ pz_kd (pz_gt g) (pz_gN g) (pz_p (pz_cF g n)) = 2 ∧ pz_e pz_dg (pz_gt g) (pz_gN g) (ay_ln ah + 1) = pz_nx (pz_gt g) (pz_gN g) (pz_p (pz_cF g n)) ∧ pz_n (pz_gt g) (pz_gN g) (ay_ln ah + 1) (pz_m (ay_ln vl)) = pz_vl (pz_gt g) (pz_gN g) (pz_p (pz_cF g n)) ∧ pz_xd g n sw ln ro rm un rt rom rk fa fp be fi
noncomputable def pz_x62 (g n w i : Nat) : Prop := pz_kd (pz_gt g) (pz_gN g) (pz_p (pz_cF g n)) = 1 ∧ pz_nx (pz_gt g) (pz_gN g) (pz_p (pz_cF g n)) - pz_at (pz_gt g) (pz_gN g) (pz_p (pz_cF g n)) = (pz_ws.getD (w / 4 - 1000) []).length ∧ ∀ j, j < i / 4 → pz_b (pz_gt g) (pz_at (pz_gt g) (pz_gN g) (pz_p (pz_cF g n)) + j) = (pz_ws.getD (w / 4 - 1000) []).getD j 0
noncomputable def pz_x65 (g n k : Nat) (pl fa : Option Nat) : Prop := pz64 (pz_gt g) (pz_gN g) (n / 4) (k / 4) ∧ ay_ln fa = k / 4 ∧ ay_ln pl = pz_at (pz_gt g) (pz_gN g) (pz_p (pz_cF g n))
noncomputable def pz_x103 (g n m : Nat) : Prop := rx_bi (m / 4) + 1 = pz_no (pz_cF g n) + 2147483648
noncomputable def pz_x114 (g n a b i : Nat) : Prop := ∀ j x y, 2 * j < i / 4 → (pz_ls (pz_cF g n))[j]? = some (x, y) → ¬ (x = a / 4 ∧ y = b / 4) ∧ (2 * j + 1 < i / 4 → ¬ (y = a / 4 ∧ x = b / 4))
/-- within addLink: k writes are done -/
noncomputable def pz_xal (k g n a b l : Nat) (ah sw ln ro rm un rt rom rk fa fp : Option Nat) (be fi : Nat → Option Nat) : Prop := ay_ln ah = pz_nx (pz_gt g) (pz_gN g) (pz_p (pz_cF g n)) ∧ ay_ln ln = l / 4 ∧ pz7 (pz_gt g) (pz_gN g) (n / 4) 5 ∧ pz67 (pz_gt g) (pz_gN g) (n / 4) (a / 4) ∧ pz104 (pz_gt g) (pz_gN g) (n / 4) (b / 4) ∧ b / 4 ≠ a / 4 ∧ pz113 (pz_gt g) (pz_gN g) (n / 4) (a / 4) (b / 4) ∧ pz_xd g n sw ln ro rm un rt rom rk fa fp be fi
  ∧ be (2 * (l / 4)) = some (4 * (a / 4)) ∧ (2 ≤ k → fi (2 * (l / 4)) = some (4 * (b / 4))) ∧ (3 ≤ k → be (2 * (l / 4) + 1) = some (4 * (b / 4))) ∧ (4 ≤ k → fi (2 * (l / 4) + 1) = some (4 * (a / 4)))

/-! The text grows and is cut -/
/-- one byte behind -/
def pz_ap (g c : Nat) : Nat := 4 * ((pz_gt g % 4294967296 ^ pz_gN g + c % 4294967296 * 4294967296 ^ pz_gN g) * 1024 + (pz_gN g + 1)) + 1
/-- byte k of a word -/
noncomputable def pz_by (a k : Nat) : Nat := match rx_f_shr a (24 - 8 * k) with
  | some r => rx_f_i2b r
  | none => 0
noncomputable def pz_apk (a g : Nat) : Nat → Nat
  | 0 => g
  | k + 1 => pz_ap (pz_apk a g k) (pz_by a k)
def pz_sel (a b c d e k : Nat) : Nat := if k < 4 then a else if k < 8 then b else if k < 12 then c else if k < 16 then d else e
noncomputable def pz_a20 (a b c d e g : Nat) : Nat → Nat
  | 0 => g
  | k + 1 => pz_ap (pz_a20 a b c d e g k) (pz_by (pz_sel a b c d e k) (k % 4))
theorem pz_a20_eq (a b c d e g : Nat) : pz_apk e (pz_apk d (pz_apk c (pz_apk b (pz_apk a g 4) 4) 4) 4) 4 = pz_a20 a b c d e g 20 := rfl
def pz_cut (g n : Nat) : Nat := 4 * (pz_gt g * 1024 + n) + 1
theorem pz_b_low {t m N j : Nat} (h : j < N) : pz_b (t % 4294967296 ^ N + m * 4294967296 ^ N) j = pz_b t j := by
  unfold pz_b
  obtain ⟨d, rfl⟩ := Nat.exists_eq_add_of_lt h
  rw [show j + d + 1 = j + (d + 1) by omega, Nat.pow_add, Nat.mod_mul, show t % 4294967296 ^ j + 4294967296 ^ j * (t / 4294967296 ^ j % 4294967296 ^ (d + 1)) + m * (4294967296 ^ j * 4294967296 ^ (d + 1)) = t % 4294967296 ^ j + 4294967296 ^ j * (t / 4294967296 ^ j % 4294967296 ^ (d + 1) + m * 4294967296 ^ (d + 1)) by rw [Nat.mul_add, ← Nat.add_assoc, Nat.mul_left_comm], Nat.add_mul_div_left _ _ (Nat.pow_pos (by decide)), Nat.div_eq_of_lt (Nat.mod_lt _ (Nat.pow_pos (by decide))), Nat.zero_add, Nat.pow_succ, ← Nat.mul_assoc, Nat.add_mul_mod_self_right, Nat.mul_comm (4294967296 ^ d), Nat.mod_mul_right_mod]
theorem pz_b_top {t m N : Nat} (h : m < 4294967296) : pz_b (t % 4294967296 ^ N + m * 4294967296 ^ N) N = m := by
  unfold pz_b
  rw [Nat.mul_comm m, Nat.add_mul_div_left _ _ (Nat.pow_pos (by decide)), Nat.div_eq_of_lt (Nat.mod_lt _ (Nat.pow_pos (by decide))), Nat.zero_add, Nat.mod_eq_of_lt h]
theorem pz_ap_g {g c : Nat} (h : pz_gN g < 1000) : pz_gN (pz_ap g c) = pz_gN g + 1 ∧ pz_gt (pz_ap g c) = pz_gt g % 4294967296 ^ pz_gN g + c % 4294967296 * 4294967296 ^ pz_gN g := by
  unfold pz_ap pz_gN pz_gt at *
  generalize g / 4 / 1024 % 4294967296 ^ (g / 4 % 1024) + c % 4294967296 * 4294967296 ^ (g / 4 % 1024) = x
  omega
theorem pz_cut_g {g n : Nat} (h : n < 1000) : pz_gN (pz_cut g n) = n ∧ pz_gt (pz_cut g n) = pz_gt g := by
  unfold pz_cut pz_gN pz_gt
  omega
/-- the tape with one byte more -/
theorem pz_ap_tp {g c N : Nat} {tp tp' : Nat → Option Nat} (hN : pz_gN g = N) (hl : N < 800) (hc : c < 4294967296) (h : ∀ j, j < pz_gN g → tp j = some (4 * pz_b (pz_gt g) j)) (h' : ∀ j, tp' j = if j = N then some (4 * c) else tp j) : ∀ j, j < pz_gN (pz_ap g c) → tp' j = some (4 * pz_b (pz_gt (pz_ap g c)) j) := by
  obtain ⟨e1, e2⟩ := pz_ap_g (g := g) (c := c) (by omega)
  intro j hj
  rw [e1] at hj
  rw [e2, h', Nat.mod_eq_of_lt hc]
  by_cases hjn : j = N
  · rw [if_pos hjn, hjn, ← hN, pz_b_top hc]
  · rw [if_neg hjn, pz_b_low (by omega)]
    exact h j (by omega)
theorem pz_apk_N {a g : Nat} : ∀ {k : Nat}, pz_gN g + k ≤ 1000 → pz_gN (pz_apk a g k) = pz_gN g + k
  | 0, _ => rfl
  | k + 1, h => by
    have := pz_apk_N (a := a) (g := g) (k := k) (by omega)
    show pz_gN (pz_ap _ _) = _
    rw [(pz_ap_g (by omega)).1, this]
    omega
theorem pz_a20_N {a b c d e g : Nat} : ∀ {k : Nat}, pz_gN g + k ≤ 1000 → pz_gN (pz_a20 a b c d e g k) = pz_gN g + k
  | 0, _ => rfl
  | k + 1, h => by
    have := pz_a20_N (a := a) (b := b) (c := c) (d := d) (e := e) (g := g) (k := k) (by omega)
    show pz_gN (pz_ap _ _) = _
    rw [(pz_ap_g (by omega)).1, this]
    omega
/-- what is kept of a word that is fed: 34, 36 -/
noncomputable def pz_x34 (g a h g' : Nat) : Prop := pz_gN g ≤ 796 ∧ ∃ k, k ≤ 4 ∧ (h / 4 + 2147483648) % 4294967296 + 8 * k = 2147483672 ∧ g' = pz_apk (a / 4) g k
noncomputable def pz_x36 (g a h g' : Nat) : Prop := pz_gN g ≤ 796 ∧ ∃ k, k < 4 ∧ (h / 4 + 2147483648) % 4294967296 + 8 * k = 2147483672 ∧ g' = pz_apk (a / 4) g (k + 1)
noncomputable def pz_x35 (g : Nat) (sz : Option Nat) (tp : Nat → Option Nat) : Prop := ay_ln sz + 1 = pz_gN g ∧ pz_gN g ≤ 800 ∧ ∀ j, j < pz_gN g → tp j = some (4 * pz_b (pz_gt g) j)
noncomputable def pz_x126 (g v : Nat) : Prop := ∃ n, pz_md (pz_cf (pz_gt g) (pz_gN g) n) = 20 ∧ pz_no (pz_cf (pz_gt g) (pz_gN g) n) = v / 4
theorem ay_typ {w : ax_W} {hp : rx_H} {q g j v : Nat} {t : ax_Y} (hT : ax_HT w hp) (hw : w.1[q]? = some g) (ht : (w.2.1[g]?).bind (fun z => ax_at z.2.2 j) = some t) (hv : ay_at hp q j = some v) : ax_ok w t v := by
  obtain ⟨k, n, l, f, b1, b2, b3, b4⟩ := hT.2 q g hw
  rw [ay_eq b2] at hv
  obtain ⟨t', c1, c2⟩ := b4 j v hv
  rw [b1] at ht
  replace ht : ax_at l j = some t := ht
  rw [c1] at ht
  cases ht
  exact c2
/-- a new symbol for a cell's content, and what is said of it -/
theorem pz_pf {w : ax_W} {X : ax_X} {ρ : Nat → Nat} {hp : rx_H} {n q j v a i : Nat} {ty : List ax_Y} {t : ax_Y} {e : List (Nat × Nat × Nat) × List (Nat × Nat × Nat) × List ax_N} {xf : List ax_N} (hE : ax_EO w X ρ (n, ty, e) hp) (sa : ax_sc n a = true) (si : ax_sc n i = true) (ea : ax_vl ρ a = 4 * (q + 2) + 2) (ei : ax_vl ρ i = 4 * j) (hv : ay_at hp q j = some v) (ht : ax_ok w t v) (hs : xf.all (fun x => x.2.all (ax_sc (n + 1))) = true) (h : ∀ ρ' : Nat → Nat, (∀ k, k < n → ρ' k = ρ k) → ρ' n = v → ∀ x ∈ xf, ax_XF X x.1 (x.2.map (ax_vl ρ')) hp) : ∃ ρ' : Nat → Nat, (∀ k, k < n → ρ' k = ρ k) ∧ ax_EO w X ρ' (n + 1, t :: ty, [(a, i, 4 * n + 3)], [], xf) hp := by
  obtain ⟨ρ', h1, h2, h3⟩ := ax_new_ok hE ht
  have hn : ρ' n = v := ax_ev_sy (n := n + 1) (k := n) h3
  have hc : ∃ (k m : Nat) (f : List Nat), rx_hg hp q = some (k, m, f) ∧ f[j]? = some v := by
    unfold ay_at at hv
    cases hg : rx_hg hp q with
    | none => rw [hg] at hv; cases hv
    | some z => obtain ⟨k, m, f⟩ := z; rw [hg] at hv; exact ⟨k, m, f, rfl, hv⟩
  obtain ⟨k, m, f, hg, hv⟩ := hc
  refine ⟨ρ', h1, ⟨h2.1, h2.2.1, fun g hg' => ?_, fun d hd => (by cases hd), fun x hx => ⟨x.2.map (ax_vl ρ'), ax_evs_vl (List.all_eq_true.mp hs x hx), h ρ' h1 hn x hx⟩⟩⟩
  rw [List.mem_singleton.mp hg']
  have e1 : ax_ev (n + 1) ρ' a = some (4 * (q + 2) + 2) := ax_ev_mono (Nat.le_succ n) h1 (by rw [ax_ev_vl sa, ea])
  have e2 : ax_ev (n + 1) ρ' i = some (4 * j) := ax_ev_mono (Nat.le_succ n) h1 (by rw [ax_ev_vl si, ei])
  have d1 : (4 * (q + 2) + 2) / 4 - 2 = q := by omega
  have d2 : 4 * j / 4 = j := by omega
  exact ⟨_, _, v, k, m, f, e1, e2, h3, by omega, by omega, by omega, by rw [d1]; exact hg, by rw [d2]; exact hv⟩
/-- min, charAt, i2b -/
theorem pz_g41 {w : ax_W} {X : ax_X} {ρ : Nat → Nat} {E : ax_E} {hp : rx_H} (hE : ax_EO w X ρ E hp) (x y z : Nat) (h : (1041, [x, y, z, 0, 0]) ∈ E.2.2.2.2) : ax_vl ρ z = if (ax_vl ρ y / 4 + 2147483648) % 4294967296 < (ax_vl ρ x / 4 + 2147483648) % 4294967296 then ax_vl ρ y else ax_vl ρ x := by
  have h1 := (ax_XF_bi (X := X) (o := 41) (by decide)).mp (ax_gx hE _ h)
  replace h1 : ax_BI 41 [ax_vl ρ x, ax_vl ρ y, ax_vl ρ z, 0, 0] := h1
  rcases h1 with ⟨-, h1⟩ | ⟨h1, -⟩ | ⟨h1, -⟩
  · replace h1 : (bif Nat.beq (rx_tk (ax_vl ρ x)) 0 && Nat.beq (rx_tk (ax_vl ρ y)) 0 then some ((bif Nat.blt (rx_bi (rx_pl (ax_vl ρ y))) (rx_bi (rx_pl (ax_vl ρ x))) then ax_vl ρ y else ax_vl ρ x) :: []) else none) = some [ax_vl ρ z] := h1
    obtain ⟨-, h1⟩ := rx_cond h1
    have h1 := (List.cons.inj (Option.some.inj h1)).1
    rw [← h1]
    have e1 : rx_bi (rx_pl (ax_vl ρ y)) = (ax_vl ρ y / 4 + 2147483648) % 4294967296 := ax_bi_def _
    have e2 : rx_bi (rx_pl (ax_vl ρ x)) = (ax_vl ρ x / 4 + 2147483648) % 4294967296 := ax_bi_def _
    rw [e1, e2]
    by_cases hl : (ax_vl ρ y / 4 + 2147483648) % 4294967296 < (ax_vl ρ x / 4 + 2147483648) % 4294967296
    · rw [if_pos hl, rx_blt.mpr hl, cond_true]
    · rw [if_neg hl, Bool.eq_false_iff.mpr (fun z => hl (rx_blt.mp z)), cond_false]
  · omega
  · omega
theorem pz_g42 {w : ax_W} {X : ax_X} {ρ : Nat → Nat} {E : ax_E} {hp : rx_H} (hE : ax_EO w X ρ E hp) (x y z : Nat) (h : (1042, [x, y, z, 0, 0]) ∈ E.2.2.2.2) : rx_primC (ax_vl ρ y) [ax_vl ρ x] = some [ax_vl ρ z] := by
  have h1 := (ax_XF_bi (X := X) (o := 42) (by decide)).mp (ax_gx hE _ h)
  replace h1 : ax_BI 42 [ax_vl ρ x, ax_vl ρ y, ax_vl ρ z, 0, 0] := h1
  rcases h1 with ⟨h1, -⟩ | ⟨-, h1⟩ | ⟨h1, -⟩
  · omega
  · exact h1
  · omega
theorem pz_chr {v i z : Nat} {l : List Nat} (hw : rx_wrd v = some l) (h : rx_primC i [v] = some [z]) : l[i / 4]? = some (z / 4) := by
  unfold rx_primC at h
  dsimp only at h
  rw [hw] at h
  dsimp only at h
  obtain ⟨-, h⟩ := rx_cond h
  cases e : rx_nth l (rx_pl i) with
  | none => rw [e] at h; cases h
  | some c =>
    rw [e] at h
    have h := (List.cons.inj (Option.some.inj h)).1
    rw [rx_nth_eq] at e
    rw [← h, show l[i / 4]? = some c from e]
    exact congrArg some (show c = 4 * c / 4 by omega)
theorem pz_g43 {w : ax_W} {X : ax_X} {ρ : Nat → Nat} {E : ax_E} {hp : rx_H} (hE : ax_EO w X ρ E hp) (x z : Nat) (h : (1043, [x, 0, z, 0, 0]) ∈ E.2.2.2.2) : ax_vl ρ z = 4 * rx_f_i2b (ax_vl ρ x / 4) := by
  have h1 := (ax_XF_bi (X := X) (o := 43) (by decide)).mp (ax_gx hE _ h)
  replace h1 : ax_BI 43 [ax_vl ρ x, 0, ax_vl ρ z, 0, 0] := h1
  rcases h1 with ⟨h1, -⟩ | ⟨h1, -⟩ | ⟨-, -, h1⟩
  · omega
  · omega
  · exact h1
theorem pz_by_eq {a k r : Nat} (h : rx_f_shr a (24 - 8 * k) = some r) : pz_by a k = rx_f_i2b r := by
  unfold pz_by
  rw [h]
theorem pz_ap_4 (g c : Nat) : 4 * (pz_ap g c / 4) + 1 = pz_ap g c := by
  unfold pz_ap
  omega
theorem pz_cut_4 (g n : Nat) : 4 * (pz_cut g n / 4) + 1 = pz_cut g n := by
  unfold pz_cut
  omega
theorem pz_i2b_lt (x : Nat) : rx_f_i2b x < 4294967296 := ax_i32_lt _
theorem pz_run_le {P : Nat → Bool} {t N : Nat} : ∀ (f p : Nat), p ≤ N → pz_run P t N f p ≤ N
  | 0, p, h => h
  | f + 1, p, h => by
    show (if p < N ∧ P (pz_b t p) = true then pz_run P t N f (p + 1) else p) ≤ N
    by_cases h1 : p < N ∧ P (pz_b t p) = true
    · rw [if_pos h1]; exact pz_run_le f (p + 1) (by omega)
    · rw [if_neg h1]; exact h
theorem pz_wd_le {t N p : Nat} (h : pz_kd t N p = 1) : pz_at t N p < N ∧ pz_nx t N p ≤ N := by
  by_cases h0 : N ≤ pz_at t N p
  · rw [(pz_kd_end h0).1] at h; cases h
  · have hlt : pz_at t N p < N := by omega
    refine ⟨hlt, ?_⟩
    cases h1 : pz_lt (pz_b t (pz_at t N p)) with
    | true => rw [(pz_kd_wd hlt h1).2]; exact pz_run_le _ _ (by omega)
    | false =>
      cases h2 : pz_dg (pz_b t (pz_at t N p)) with
      | true => rw [(pz_kd_nm hlt h2).1] at h; cases h
      | false => rw [(pz_kd_sg hlt h1 h2).2]; omega
theorem pz_getD {l : List Nat} {i z : Nat} (h : l[i]? = some z) : l.getD i 0 = z := by
  rw [List.getD_eq_getElem?_getD, h]
  rfl
theorem pz_ps {x : Nat} (lo hi : Nat) (h1 : x < 4294967296) (h2 : 2147483648 + lo ≤ (x + 2147483648) % 4294967296) (h3 : (x + 2147483648) % 4294967296 ≤ 2147483648 + hi) (h4 : hi < 2147483648) : lo ≤ x ∧ x ≤ hi := by omega
theorem pz_sm {x y z : Nat} (hx : x < 1073741824) (hy : y < 1073741824) (hz : z < 4294967296) (h : (x + 2147483648) % 4294967296 + (y + 2147483648) % 4294967296 = (z + 2147483648) % 4294967296 + 2147483648) : z = x + y := by omega

theorem pz_gj {w : ax_W} {X : ax_X} {ρ : Nat → Nat} {E : ax_E} {hp : rx_H} (hE : ax_EO w X ρ E hp) (k : Nat) (hk : k < E.1) (h : E.2.1[E.1 - 1 - k]? = some (1, 0, 0)) : ρ k % 4 = 1 := by
  obtain ⟨c, h1⟩ := ax_gj hE k hk h
  omega
theorem pz_gi {w : ax_W} {X : ax_X} {ρ : Nat → Nat} {E : ax_E} {hp : rx_H} (hE : ax_EO w X ρ E hp) (k lo hi : Nat) (hk : k < E.1) (h : E.2.1[E.1 - 1 - k]? = some (0, lo, hi)) : ρ k % 4 = 0 ∧ ρ k / 4 < 4294967296 ∧ lo ≤ (ρ k / 4 + 2147483648) % 4294967296 ∧ (ρ k / 4 + 2147483648) % 4294967296 ≤ hi := by
  obtain ⟨c, h1, h2, h3, h4⟩ := ax_gi hE k lo hi hk h
  rw [ax_bi_def] at h3 h4
  have e : ρ k / 4 = c := by omega
  rw [e]
  exact ⟨by omega, h2, h3, h4⟩
theorem pz_gs {w : ax_W} {X : ax_X} {ρ : Nat → Nat} {E : ax_E} {hp : rx_H} (hE : ax_EO w X ρ E hp) (p q r : Nat) (h : (1015, [p, q, r, 0]) ∈ E.2.2.2.2) : (ax_vl ρ p / 4 + 2147483648) % 4294967296 + (ax_vl ρ q / 4 + 2147483648) % 4294967296 = (ax_vl ρ r / 4 + 2147483648) % 4294967296 + 2147483648 := by
  obtain ⟨a, b, c, ha, hb, hc, la, lb, lc, hs⟩ := ax_gs hE p q r h
  rw [ax_bi_def, ax_bi_def, ax_bi_def] at hs
  rw [ha, hb, hc, Nat.mul_div_cancel_left a (by decide), Nat.mul_div_cancel_left b (by decide), Nat.mul_div_cancel_left c (by decide)]
  exact hs
theorem pz_gc {w : ax_W} {X : ax_X} {ρ : Nat → Nat} {E : ax_E} {hp : rx_H} (hE : ax_EO w X ρ E hp) (k p q : Nat) (hk : k < 6) (h : (1020 + k, [p, q]) ∈ E.2.2.2.2) : ax_cnd k ((ax_vl ρ p / 4 + 2147483648) % 4294967296) ((ax_vl ρ q / 4 + 2147483648) % 4294967296) := by
  have := ax_gc hE k p q hk h
  rw [ax_bi_def, ax_bi_def] at this
  exact this
theorem pz_go {w : ax_W} {X : ax_X} {ρ : Nat → Nat} {E : ax_E} {hp : rx_H} (hE : ax_EO w X ρ E hp) (p q : Nat) (h : (1030, [p, q]) ∈ E.2.2.2.2) : ax_vl ρ p < ax_vl ρ q := by
  rcases (ax_XF_bi (o := 30) (by decide)).mp (ax_gx hE _ h) with ⟨k, h1, h2, -⟩ | ⟨-, h3⟩
  · omega
  · exact h3
theorem pz_pn1 {w : ax_W} {X : ax_X} {ρ : Nat → Nat} {hp : rx_H} {n K : Nat} {ty : List ax_Y} {e : List (Nat × Nat × Nat) × List (Nat × Nat × Nat) × List ax_N} {xf : List ax_N} (hE : ax_EO w X ρ (n, ty, e) hp) (hs : xf.all (fun x => x.2.all (ax_sc (n + 1))) = true) (h : ∀ ρ' : Nat → Nat, (∀ k, k < n → ρ' k = ρ k) → ρ' n = 4 * K + 1 → ∀ x ∈ xf, ax_XF X x.1 (x.2.map (ax_vl ρ')) hp) : ∃ ρ' : Nat → Nat, (∀ k, k < n → ρ' k = ρ k) ∧ ax_EO w X ρ' (n + 1, (1, 0, 0) :: ty, [], [], xf) hp := ax_pn (K := K) hE hs h
theorem pz_pn2 {w : ax_W} {X : ax_X} {ρ : Nat → Nat} {hp : rx_H} {n K L : Nat} {ty : List ax_Y} {e : List (Nat × Nat × Nat) × List (Nat × Nat × Nat) × List ax_N} {xf : List ax_N} (hE : ax_EO w X ρ (n, ty, e) hp) (hs : xf.all (fun x => x.2.all (ax_sc (n + 2))) = true) (h : ∀ ρ' : Nat → Nat, (∀ k, k < n → ρ' k = ρ k) → ρ' n = 4 * K + 1 → ρ' (n + 1) = 4 * L + 1 → ∀ x ∈ xf, ax_XF X x.1 (x.2.map (ax_vl ρ')) hp) : ∃ ρ' : Nat → Nat, (∀ k, k < n → ρ' k = ρ k) ∧ ax_EO w X ρ' (n + 2, (1, 0, 0) :: (1, 0, 0) :: ty, [], [], xf) hp := by
  obtain ⟨ρ1, h1, h2⟩ := ax_pn (K := K) (xf := []) hE rfl (fun _ _ _ x hx => by cases hx)
  have hK : ∃ ρ1 : Nat → Nat, (∀ k, k < n → ρ1 k = ρ k) ∧ ρ1 n = 4 * K + 1 ∧ ax_EO w X ρ1 (n + 1, (1, 0, 0) :: ty, [], [], []) hp := by
    obtain ⟨r, a1, a2, a3⟩ := ax_new_ok hE (t := (1, 0, 0)) (x := 4 * K + 1) (Or.inr (Or.inl ⟨rfl, by omega⟩))
    exact ⟨r, a1, ax_ev_sy (n := n + 1) (k := n) a3, ⟨a2.1, a2.2.1, fun f hf => (by cases hf), fun d hd => (by cases hd), fun x hx => (by cases hx)⟩⟩
  obtain ⟨r, a1, a2, a3⟩ := hK
  obtain ⟨r', b1, b2⟩ := ax_pn (K := L) (xf := xf) a3 hs (fun r' c1 c2 => h r' (fun k hk => (c1 k (by omega)).trans (a1 k hk)) ((c1 n (by omega)).trans a2) c2)
  exact ⟨r', fun k hk => (b1 k (by omega)).trans (a1 k hk), b2⟩
theorem pz_41 (K : Nat) : (4 * K + 1) / 4 = K := by omega
theorem pz_53 {g n K ah : Nat} {sw ln ro rm un rt rom rk fa fp oa : Option Nat} {be fi : Nat → Option Nat} (hn : n / 4 = K) (ho : ay_ln oa = ah) (h : pz53 (pz_gt g) (pz_gN g) K ah (ay_ln sw) (ay_ln ln) (ay_ln ro) (ay_ln rm) (ay_ln un) (ay_ln rt) (ay_ln rom) (ay_ln rk) (ay_ln fa) (ay_ln fp) be fi) : pz_x53 g n oa sw ln ro rm un rt rom rk fa fp be fi := by
  subst hn ho
  exact ⟨by rw [h.1], h.2⟩

