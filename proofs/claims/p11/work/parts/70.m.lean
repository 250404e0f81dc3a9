-- the reader
noncomputable def ay_isb (o : Option Nat) : Bool := match o with
  | some v => decide (1003 ≤ v / 4) && decide (v / 4 ≤ 1007)
  | none => false
noncomputable def ay_ism (o : Option Nat) : Bool := match o with
  | some v => decide (v / 4 = 1008) || decide (v / 4 = 1009)
  | none => false
noncomputable def ay_pg (b u x d e m : Nat) (op : Nat → Option Nat) (od : Nat) (ru : Nat → Option Nat) (rl un dp : Nat) : Prop :=
  (∃ h, ay_ht ru (100 * b) rl = some h ∧ h + u = 1 + ay_cnt (fun j => ay_isb (op j)) od + x) ∧ dp + 1 = ay_cnt (fun j => ay_ism (op j)) od + d ∧ rl + od + e + (1 - u) ≤ 2 * un ∧ (∀ j, j < od → op j = some 4032 → (j + 1 < od → ay_ism (op (j + 1)) = true) ∧ (j + 1 = od → m = 1)) ∧ ∀ j, j < od → ∃ c, op j = some (4 * c) ∧ 1003 ≤ c ∧ c ≤ 1009
noncomputable def ay_M40 (b u x d e m : Nat) (op : Nat → Option Nat) (od : Option Nat) (ru : Nat → Option Nat) (rl un dp : Option Nat) : Prop := ay_pg b (u / 4) (x / 4) (d / 4) (e / 4) (m / 4) op (ay_ln od) ru (ay_ln rl) (ay_ln un) (ay_ln dp)
noncomputable def ay_M42 (rl un : Option Nat) : Prop := ay_ln rl = 0 ∧ ay_ln un = 0
noncomputable def ay_M50 (b : Nat) (no ro ln : Option Nat) (en : Nat → Option Nat) (fo : Option Nat) : Prop := fo = some 0 → ay_ln no ≤ 10 ∧ ay_ln ro ≤ 9 ∧ ay_M25 b en no ln
noncomputable def ay_M52 (b : Nat) (ru : Nat → Option Nat) (rl un fo hr : Option Nat) : Prop := (fo = some 0 → ay_M26 b ru rl) ∧ (hr = some 0 → ay_ln rl = 0 ∧ ay_ln un = 0)
noncomputable def ay_M53 (k u : Nat) (un dp : Option Nat) : Prop := 20 * (40 - ay_ln un) + 2 * ay_ln dp + (1 - u / 4) ≤ k / 4
noncomputable def ay_M55 (k : Nat) (un : Option Nat) : Prop := 20 * (40 - ay_ln un) + 13 ≤ k / 4
noncomputable def ay_M54 (k : Nat) (ln h1 h2 h3 : Option Nat) : Prop := (20 - ay_ln ln) + (1 - ay_ln h1) + (1 - ay_ln h2) + (1 - ay_ln h3) + 1 ≤ k / 4
noncomputable def ay_M56 (k : Nat) (od : Option Nat) : Prop := ay_ln od ≤ k / 4
noncomputable def ay_M57 (od : Option Nat) (op : Nat → Option Nat) : Prop := 1 ≤ ay_ln od ∧ ay_isb (op (ay_ln od - 1)) = true
noncomputable def ay_M58 (od : Option Nat) (op : Nat → Option Nat) : Prop := 1 ≤ ay_ln od ∧ op (ay_ln od - 1) = some 4032
noncomputable def ay_M59 (od : Option Nat) (op : Nat → Option Nat) : Prop := ay_isb (op (ay_ln od)) = true
noncomputable def ay_M61 (od : Option Nat) (op : Nat → Option Nat) : Prop := op (ay_ln od) = some 4032
noncomputable def ay_M62 (fo tk at_ sz : Option Nat) (tp : Nat → Option Nat) : Prop := fo = some 0 ∧ tk = some 16 ∧ ay_ln at_ < ay_ln sz ∧ (tp (ay_ln at_) = some 172 ∨ tp (ay_ln at_) = some 180 ∨ tp (ay_ln at_) = some 168 ∨ tp (ay_ln at_) = some 188 ∨ tp (ay_ln at_) = some 148)
noncomputable def ay_M64 (b : Nat) (en : Nat → Option Nat) (ln no : Option Nat) : Prop := ∃ t, en (40 * b + 2 * ay_ln ln) = some (4 * t) ∧ t < ay_ln no
noncomputable def ay_M65 (b : Nat) (en : Nat → Option Nat) (ln no : Option Nat) : Prop := (∃ t, en (40 * b + 2 * ay_ln ln) = some (4 * t) ∧ t < ay_ln no) ∧ ∃ t, en (40 * b + 2 * ay_ln ln + 1) = some (4 * t) ∧ t < ay_ln no
theorem ay_ht_same {ru ru' : Nat → Option Nat} {o : Nat} : ∀ {k : Nat}, (∀ j, j < k → ru' (o + j) = ru (o + j)) → ay_ht ru' o k = ay_ht ru o k
  | 0, _ => rfl
  | k + 1, h => by
    show (match ay_ht ru' o k, ru' (o + k) with
      | some h, some v => ay_stp h v
      | _, _ => none) = (match ay_ht ru o k, ru (o + k) with
      | some h, some v => ay_stp h v
      | _, _ => none)
    rw [h k (by omega), ay_ht_same (k := k) (fun j hj => h j (by omega))]
theorem ay_ht_pre {ru : Nat → Option Nat} {o : Nat} : ∀ {k : Nat}, ay_ht ru o k ≠ none → ∀ j, j ≤ k → ay_ht ru o j ≠ none
  | 0, h, j, hj => by
    have : j = 0 := by omega
    rw [this]
    exact h
  | k + 1, h, j, hj => by
    by_cases e : j = k + 1
    · rw [e]; exact h
    · refine ay_ht_pre (k := k) (fun z => h ?_) j (by omega)
      show (match ay_ht ru o k, ru (o + k) with
        | some h, some v => ay_stp h v
        | _, _ => none) = none
      rw [z]
theorem ay_isb_c {c : Nat} (h1 : 1003 ≤ c) (h2 : c ≤ 1007) : ay_isb (some (4 * c)) = true := by
  show (decide (1003 ≤ 4 * c / 4) && decide (4 * c / 4 ≤ 1007)) = true
  rw [show 4 * c / 4 = c by omega]
  exact rx_and2.mpr ⟨decide_eq_true h1, decide_eq_true h2⟩
theorem ay_isb_n {c : Nat} (h : c < 1003 ∨ 1007 < c) : ay_isb (some (4 * c)) = false := by
  refine Bool.eq_false_iff.mpr (fun z => ?_)
  replace z : (decide (1003 ≤ 4 * c / 4) && decide (4 * c / 4 ≤ 1007)) = true := z
  obtain ⟨z1, z2⟩ := rx_and2.mp z
  have z1 := of_decide_eq_true z1
  have z2 := of_decide_eq_true z2
  omega
theorem ay_ism_c {c : Nat} (h : c = 1008 ∨ c = 1009) : ay_ism (some (4 * c)) = true := by
  rcases h with rfl | rfl <;> decide
theorem ay_ism_n {c : Nat} (h : c < 1008) : ay_ism (some (4 * c)) = false := by
  refine Bool.eq_false_iff.mpr (fun z => ?_)
  replace z : (decide (4 * c / 4 = 1008) || decide (4 * c / 4 = 1009)) = true := z
  rcases rx_or2.mp z with z | z
  · have z := of_decide_eq_true z; omega
  · have z := of_decide_eq_true z; omega
section AYP
variable {b u x d e m od rl un dp : Nat} {op op' ru ru' : Nat → Option Nat}
/-- what lies beyond does not matter -/
theorem ay_pg_far (h : ay_pg b u x d e m op od ru rl un dp) (h1 : ∀ j, j < od → op' j = op j) (h2 : ∀ j, j < rl → ru' (100 * b + j) = ru (100 * b + j)) : ay_pg b u x d e m op' od ru' rl un dp := by
  obtain ⟨⟨h0, p1, p2⟩, p3, p4, p5, p6⟩ := h
  refine ⟨⟨h0, by rw [ay_ht_same h2]; exact p1, by rw [ay_cnt_same (p := fun j => ay_isb (op j)) (fun j hj => by rw [h1 j hj])]; exact p2⟩, by rw [ay_cnt_same (p := fun j => ay_ism (op j)) (fun j hj => by rw [h1 j hj])]; exact p3, p4, ?_, ?_⟩
  · intro j hj hm
    rw [h1 j hj] at hm
    refine ⟨fun hl => ?_, (p5 j hj hm).2⟩
    rw [h1 (j + 1) hl]
    exact (p5 j hj hm).1 hl
  · intro j hj
    rw [h1 j hj]
    exact p6 j hj
theorem ay_pg_bound (h : ay_pg b u x d e m op od ru rl un dp) : rl ≤ 2 * un ∧ od ≤ 2 * un := by
  obtain ⟨-, -, p4, -⟩ := h
  omega
theorem ay_pg_O {c : Nat} (h : ay_pg b 1 0 1 2 1 op od ru rl un dp) (hr : ru (100 * b + rl) = some (4 * c)) (hc : c ≤ 1002) : ay_pg b 0 0 1 0 1 op od ru (rl + 1) un dp := by
  obtain ⟨⟨h0, p1, p2⟩, p3, p4, p5, p6⟩ := h
  refine ⟨⟨h0 + 1, ?_, by omega⟩, p3, by omega, p5, p6⟩
  rw [ay_ht_s p1 hr]
  unfold ay_stp
  rw [if_pos (by omega)]
theorem ay_pg_B {c : Nat} (h : ay_pg b 0 1 1 1 0 op od ru rl un dp) (hr : ru (100 * b + rl) = some (4 * c)) (h1 : 1003 ≤ c) (h2 : c ≤ 1007) : ay_pg b 0 0 1 0 0 op od ru (rl + 1) un dp := by
  obtain ⟨⟨h0, p1, p2⟩, p3, p4, p5, p6⟩ := h
  refine ⟨⟨h0 - 1, ?_, by omega⟩, p3, by omega, p5, p6⟩
  rw [ay_ht_s p1 hr]
  unfold ay_stp
  rw [if_neg (by omega), if_neg (by omega), if_pos (by omega), if_pos (by omega)]
theorem ay_pg_M (h : ay_pg b 0 0 2 1 1 op od ru rl un dp) (hr : ru (100 * b + rl) = some (4 * 1008)) : ay_pg b 0 0 2 0 1 op od ru (rl + 1) un dp := by
  obtain ⟨⟨h0, p1, p2⟩, p3, p4, p5, p6⟩ := h
  refine ⟨⟨h0, ?_, by omega⟩, p3, by omega, p5, p6⟩
  rw [ay_ht_s p1 hr]
  unfold ay_stp
  rw [if_neg (by omega), if_pos (by omega), if_pos (by omega)]
theorem ay_cnt_s {p : Nat → Bool} (n : Nat) : ay_cnt p (n + 1) = (if p n = true then 1 else 0) + ay_cnt p n := rfl
theorem ay_pg_pP {c : Nat} (h : ay_pg b 1 0 1 2 1 op od ru rl un dp) (ho : op od = some (4 * c)) (hc : c = 1008 ∨ c = 1009) : ay_pg b 1 0 0 1 1 op (od + 1) ru rl un dp := by
  obtain ⟨⟨h0, p1, p2⟩, p3, p4, p5, p6⟩ := h
  have i1 : ay_isb (op od) = false := by rw [ho]; exact ay_isb_n (by omega)
  have i2 : ay_ism (op od) = true := by rw [ho]; exact ay_ism_c hc
  refine ⟨⟨h0, p1, ?_⟩, ?_, by omega, ?_, ?_⟩
  · rw [ay_cnt_s]
    show h0 + 1 = 1 + ((if ay_isb (op od) = true then 1 else 0) + _) + 0
    rw [i1, if_neg (by decide)]
    omega
  · rw [ay_cnt_s]
    show dp + 1 = (if ay_ism (op od) = true then 1 else 0) + _ + 0
    rw [i2, if_pos rfl]
    omega
  · intro j hj hm
    refine ⟨fun hl => ?_, fun _ => rfl⟩
    by_cases e1 : j + 1 = od
    · rw [e1]; exact i2
    · exact (p5 j (by omega) hm).1 (by omega)
  · intro j hj
    by_cases e1 : j = od
    · rw [e1]; exact ⟨c, ho, by omega, by omega⟩
    · exact p6 j (by omega)
theorem ay_pg_pB {c : Nat} (h : ay_pg b 0 0 1 0 0 op od ru rl un dp) (ho : op od = some (4 * c)) (h1 : 1003 ≤ c) (h2 : c ≤ 1007) : ay_pg b 1 0 1 0 1 op (od + 1) ru rl un dp := by
  obtain ⟨⟨h0, p1, p2⟩, p3, p4, p5, p6⟩ := h
  have i1 : ay_isb (op od) = true := by rw [ho]; exact ay_isb_c h1 h2
  have i2 : ay_ism (op od) = false := by rw [ho]; exact ay_ism_n (by omega)
  refine ⟨⟨h0, p1, ?_⟩, ?_, by omega, ?_, ?_⟩
  · rw [ay_cnt_s]
    show h0 + 1 = 1 + ((if ay_isb (op od) = true then 1 else 0) + _) + 0
    rw [i1, if_pos rfl]
    omega
  · rw [ay_cnt_s]
    show dp + 1 = (if ay_ism (op od) = true then 1 else 0) + _ + 1
    rw [i2, if_neg (by decide)]
    omega
  · intro j hj hm
    refine ⟨fun hl => ?_, fun _ => rfl⟩
    by_cases e1 : j + 1 = od
    · have := (p5 j (by omega) hm).2 e1
      omega
    · exact (p5 j (by omega) hm).1 (by omega)
  · intro j hj
    by_cases e1 : j = od
    · rw [e1]; exact ⟨c, ho, by omega, by omega⟩
    · exact p6 j (by omega)
theorem ay_pg_qB (h : ay_pg b 0 0 1 0 0 op (od + 1) ru rl un dp) (ho : ay_isb (op od) = true) : ay_pg b 0 1 1 1 0 op od ru rl un dp := by
  obtain ⟨⟨h0, p1, p2⟩, p3, p4, p5, p6⟩ := h
  obtain ⟨c, hc, hc1, hc2⟩ := p6 od (by omega)
  have hc3 : c ≤ 1007 := by
    rw [hc] at ho
    replace ho : (decide (1003 ≤ 4 * c / 4) && decide (4 * c / 4 ≤ 1007)) = true := ho
    have := of_decide_eq_true (rx_and2.mp ho).2
    omega
  have i2 : ay_ism (op od) = false := by rw [hc]; exact ay_ism_n (by omega)
  rw [ay_cnt_s] at p2 p3
  replace p2 : h0 + 0 = 1 + ((if ay_isb (op od) = true then 1 else 0) + ay_cnt (fun j => ay_isb (op j)) od) + 0 := p2
  replace p3 : dp + 1 = (if ay_ism (op od) = true then 1 else 0) + ay_cnt (fun j => ay_ism (op j)) od + 1 := p3
  rw [ho, if_pos rfl] at p2
  rw [i2, if_neg (by decide)] at p3
  refine ⟨⟨h0, p1, by omega⟩, by omega, by omega, ?_, fun j hj => p6 j (by omega)⟩
  intro j hj hm
  refine ⟨fun hl => (p5 j (by omega) hm).1 (by omega), fun hl => ?_⟩
  have := (p5 j (by omega) hm).1 (by omega)
  rw [hl, i2] at this
  cases this
theorem ay_pg_qM {m : Nat} {c : Nat} (h : ay_pg b 0 0 1 0 m op (od + 1) ru rl un dp) (ho : op od = some (4 * c)) (hc : c = 1008 ∨ c = 1009) : ay_pg b 0 0 2 1 1 op od ru rl un dp := by
  obtain ⟨⟨h0, p1, p2⟩, p3, p4, p5, p6⟩ := h
  have i1 : ay_isb (op od) = false := by rw [ho]; exact ay_isb_n (by omega)
  have i2 : ay_ism (op od) = true := by rw [ho]; exact ay_ism_c hc
  rw [ay_cnt_s] at p2 p3
  replace p2 : h0 + 0 = 1 + ((if ay_isb (op od) = true then 1 else 0) + ay_cnt (fun j => ay_isb (op j)) od) + 0 := p2
  replace p3 : dp + 1 = (if ay_ism (op od) = true then 1 else 0) + ay_cnt (fun j => ay_ism (op j)) od + 1 := p3
  rw [i1, if_neg (by decide)] at p2
  rw [i2, if_pos rfl] at p3
  refine ⟨⟨h0, p1, by omega⟩, by omega, by omega, ?_, fun j hj => p6 j (by omega)⟩
  intro j hj hm
  exact ⟨fun hl => (p5 j (by omega) hm).1 (by omega), fun _ => rfl⟩
theorem ay_pg_d1 (h : ay_pg b 0 0 2 e 1 op od ru rl un (dp + 1)) : ay_pg b 0 0 1 0 1 op od ru rl un dp := by
  obtain ⟨⟨h0, p1, p2⟩, p3, p4, p5, p6⟩ := h
  exact ⟨⟨h0, p1, p2⟩, by omega, by omega, p5, p6⟩
theorem ay_pg_d0 (h : ay_pg b 0 0 2 e 1 op od ru rl un dp) : 1 ≤ dp := by
  obtain ⟨-, p3, -⟩ := h
  omega
theorem ay_pg_du (h : ay_pg b 1 0 0 1 1 op od ru rl un dp) : ay_pg b 1 0 1 0 1 op od ru rl un (dp + 1) := by
  obtain ⟨⟨h0, p1, p2⟩, p3, p4, p5, p6⟩ := h
  exact ⟨⟨h0, p1, p2⟩, by omega, by omega, p5, p6⟩
theorem ay_pg_un (h : ay_pg b 1 0 1 0 1 op od ru rl un dp) : ay_pg b 1 0 1 2 1 op od ru rl (un + 1) dp := by
  obtain ⟨⟨h0, p1, p2⟩, p3, p4, p5, p6⟩ := h
  exact ⟨⟨h0, p1, p2⟩, p3, by omega, p5, p6⟩
theorem ay_pg_m0 (h : ay_pg b 0 0 1 0 1 op od ru rl un dp) (ht : 1 ≤ od → op (od - 1) ≠ some 4032) : ay_pg b 0 0 1 0 0 op od ru rl un dp := by
  obtain ⟨⟨h0, p1, p2⟩, p3, p4, p5, p6⟩ := h
  refine ⟨⟨h0, p1, p2⟩, p3, p4, ?_, p6⟩
  intro j hj hm
  refine ⟨(p5 j hj hm).1, fun hl => ?_⟩
  exfalso
  refine ht (by omega) ?_
  rw [show od - 1 = j by omega]
  exact hm
theorem ay_pg_top (h : ay_pg b 0 0 1 0 0 op (od + 1) ru rl un dp) {c : Nat} (ho : op od = some (4 * c)) : (1003 ≤ c ∧ c ≤ 1007) ∨ c = 1009 := by
  obtain ⟨-, -, -, p5, p6⟩ := h
  obtain ⟨c', hc, hc1, hc2⟩ := p6 od (by omega)
  rw [ho] at hc
  have e1 : c = c' := by have := Option.some.inj hc; omega
  by_cases e2 : c = 1008
  · exfalso
    have := (p5 od (by omega) (by rw [ho, e2])).2 rfl
    omega
  · omega
/-- nothing is open -/
theorem ay_pg_deep (h : ay_pg b 0 0 1 0 0 op od ru rl un dp) (hd : 1 ≤ dp) : 1 ≤ od := by
  obtain ⟨-, p3, -⟩ := h
  rcases Nat.eq_zero_or_pos od with h0 | h0
  · rw [h0] at p3
    replace p3 : dp + 1 = 0 + 1 := p3
    omega
  · exact h0
theorem ay_pg_flat (h : ay_pg b 0 0 1 0 0 op (od + 1) ru rl un 0) : ay_isb (op od) = true := by
  obtain ⟨-, p3, -, p5, p6⟩ := h
  obtain ⟨c, hc, hc1, hc2⟩ := p6 od (by omega)
  rw [ay_cnt_s] at p3
  replace p3 : 0 + 1 = (if ay_ism (op od) = true then 1 else 0) + ay_cnt (fun j => ay_ism (op j)) od + 1 := p3
  by_cases e1 : c ≤ 1007
  · rw [hc]; exact ay_isb_c hc1 e1
  · exfalso
    rw [hc, ay_ism_c (by omega), if_pos rfl] at p3
    omega
theorem ay_pg_end (h : ay_pg b 0 0 1 0 0 op 0 ru rl un dp) : ∀ k, k ≤ rl → ay_ht ru (100 * b) k ≠ none := by
  obtain ⟨⟨h0, p1, -⟩, -⟩ := h
  exact ay_ht_pre (by rw [p1]; exact fun z => by cases z)
theorem ay_pg_0 : ay_pg b 1 0 1 0 1 op 0 ru 0 0 0 := ⟨⟨0, rfl, rfl⟩, rfl, Nat.le_refl _, fun j hj => absurd hj (Nat.not_lt_zero _), fun j hj => absurd hj (Nat.not_lt_zero _)⟩
end AYP
theorem pz_isb {o : Option Nat} (h : ay_isb o = true) : o ≠ some 4036 ∧ o ≠ some 4032 := by
  constructor
  · intro z
    rw [z] at h
    exact absurd h (by decide)
  · intro z
    rw [z] at h
    exact absurd h (by decide)
noncomputable def ax_XMq0 (b : Nat) : ax_X := fun x vs hp => match x, vs with
  | 0, [k] => ax_M0 k hp
  | 1, [] => ax_M1 202 hp
  | 2, [] => ax_M1 203 hp
  | 3, [] => ax_M3 hp
  | 4, [p] => ax_M4 p hp
  | 5, [s, c] => ax_M5 s c hp
  | 6, [k, s, n] => ax_M6 k s n
  | 7, [k, s] => ax_M7 k s
  | 8, [s, c] => ay_ex hp 199 ∧ ay_M8 s c (ay_at hp 199)
  | 9, [f, i] => ay_ex hp 199 ∧ ay_M9 f i (ay_at hp 199)
  | 10, [f, i] => ay_ex hp 199 ∧ ay_M10 f i (ay_at hp 199)
  | 11, [f] => ay_ex hp 199 ∧ ay_ex hp 198 ∧ ay_ex hp 181 ∧ ay_M11 b f (ay_at hp 199) (ay_at hp 198) (ay_at hp 181)
  | 12, [k, f, v] => ay_ex hp 199 ∧ ay_ex hp 198 ∧ ay_ex hp 181 ∧ ay_M12 b k f v (ay_at hp 199) (ay_at hp 198) (ay_at hp 181)
  | 13, [k, f, v] => ay_ex hp 199 ∧ ay_ex hp 198 ∧ ay_ex hp 181 ∧ ay_M13 b k f v (ay_at hp 199) (ay_at hp 198) (ay_at hp 181)
  | 14, [k, f] => ay_ex hp 198 ∧ ay_ex hp 181 ∧ ay_M14 b k f (ay_at hp 198) (ay_at hp 181)
  | 15, [k, f, v] => ay_ex hp 198 ∧ ay_ex hp 181 ∧ ay_M15 b k f v (ay_at hp 198) (ay_at hp 181)
  | _, _ => True
noncomputable def ax_XMq1 (b : Nat) : ax_X := fun x vs hp => match x, vs with
  | 0, [k, f, v] => ay_ex hp 198 ∧ ay_ex hp 181 ∧ ay_ex hp 199 ∧ ay_M16 b k f v (ay_at hp 199) (ay_at hp 198) (ay_at hp 181)
  | 1, [k] => ay_ex hp 188 ∧ ay_ex hp 174 ∧ ay_ex hp 176 ∧ ay_M17 k (ay_at hp 188) (ay_at hp 174) (ay_at hp 176 b)
  | 2, [n, l] => ay_ex hp 188 ∧ ay_ex hp 174 ∧ ay_ex hp 176 ∧ ay_ex hp 200 ∧ ay_M18 n l (ay_at hp 188) (ay_at hp 174) (ay_at hp 200) (ay_at hp 176 b)
  | 3, [n] => ay_ex hp 188 ∧ ay_ex hp 174 ∧ ay_ex hp 176 ∧ ay_ex hp 200 ∧ ay_M19 n (ay_at hp 188) (ay_at hp 174) (ay_at hp 200) (ay_at hp 176 b)
  | 4, [k, l] => ay_ex hp 188 ∧ ay_ex hp 174 ∧ ay_ex hp 176 ∧ ay_ex hp 200 ∧ ay_M20 k l (ay_at hp 188) (ay_at hp 174) (ay_at hp 200) (ay_at hp 176 b)
  | 5, [k, l] => ay_ex hp 188 ∧ ay_ex hp 174 ∧ ay_ex hp 176 ∧ ay_ex hp 200 ∧ ay_M21 k l (ay_at hp 188) (ay_at hp 174) (ay_at hp 200) (ay_at hp 176 b)
  | 6, [] => ay_ex hp 188 ∧ ay_ex hp 174 ∧ ay_ex hp 176 ∧ ay_ex hp 200 ∧ ay_M22 (ay_at hp 188) (ay_at hp 174) (ay_at hp 200) (ay_at hp 176 b)
  | 8, [] => ay_ex hp 194 ∧ ay_ex hp 191 ∧ ay_ex hp 181 ∧ ay_ex hp 174 ∧ ay_ex hp 175 ∧ ay_ex hp 176 ∧ ay_M24 b (ay_at hp 194) (ay_at hp 191) (ay_at hp 181) (ay_at hp 174) (ay_at hp 175 b) (ay_at hp 176 b)
  | 9, [] => ay_ex hp 181 ∧ ay_ex hp 175 ∧ ay_ex hp 176 ∧ ay_M25 b (ay_at hp 181) (ay_at hp 175 b) (ay_at hp 176 b)
  | 10, [] => ay_ex hp 182 ∧ ay_ex hp 180 ∧ ay_M26 b (ay_at hp 182) (ay_at hp 180 b)
  | 12, [g, v, s, c] => ay_ex hp 191 ∧ ay_ex hp 181 ∧ ay_ex hp 174 ∧ ay_ex hp 176 ∧ ay_M28 b g v s c (ay_at hp 191) (ay_at hp 181) (ay_at hp 174) (ay_at hp 176 b)
  | 13, [g, v, s] => ay_ex hp 194 ∧ ay_ex hp 191 ∧ ay_ex hp 181 ∧ ay_ex hp 174 ∧ ay_ex hp 175 ∧ ay_ex hp 176 ∧ ay_M29 b g v s (ay_at hp 194) (ay_at hp 191) (ay_at hp 181) (ay_at hp 174) (ay_at hp 175 b) (ay_at hp 176 b)
  | 14, [g, v, s] => ay_ex hp 194 ∧ ay_ex hp 191 ∧ ay_ex hp 181 ∧ ay_ex hp 174 ∧ ay_ex hp 175 ∧ ay_ex hp 176 ∧ ay_M30 b g v s (ay_at hp 194) (ay_at hp 191) (ay_at hp 181) (ay_at hp 174) (ay_at hp 175 b) (ay_at hp 176 b)
  | 15, [f, t, i, n, v, s, c] => ay_ex hp 194 ∧ ay_ex hp 181 ∧ ay_ex hp 174 ∧ ay_M31 b f t i n v s c (ay_at hp 194) (ay_at hp 181) (ay_at hp 174)
  | _, _ => True
noncomputable def ax_XMq2 (b : Nat) : ax_X := fun x vs hp => match x, vs with
  | 0, [f, t, i, c] => ay_ex hp 194 ∧ ay_ex hp 181 ∧ ay_ex hp 174 ∧ ay_M32 b f t i c (ay_at hp 194) (ay_at hp 181) (ay_at hp 174)
  | 1, [f, t, i, n, v, s] => ay_ex hp 194 ∧ ay_ex hp 181 ∧ ay_ex hp 174 ∧ ay_M33 b f t i n v s (ay_at hp 194) (ay_at hp 181) (ay_at hp 174)
  | 2, [f, t, i] => ay_ex hp 194 ∧ ay_ex hp 181 ∧ ay_ex hp 174 ∧ ay_M34 b f t i (ay_at hp 194) (ay_at hp 181) (ay_at hp 174)
  | 4, [n, k] => ay_ex hp 182 ∧ ay_ex hp 180 ∧ ay_M36 b n k (ay_at hp 182)
  | 8, [u, x, d, e, m] => ay_ex hp 185 ∧ ay_ex hp 173 ∧ ay_ex hp 182 ∧ ay_ex hp 180 ∧ ay_ex hp 179 ∧ ay_ex hp 173 ∧ ay_M40 (1 - b) u x d e m (ay_at hp 185) (ay_at hp 173 27) (ay_at hp 182) (ay_at hp 180 (1 - b)) (ay_at hp 179 (1 - b)) (ay_at hp 173 28)
  | 10, [] => ay_ex hp 180 ∧ ay_ex hp 179 ∧ ay_M42 (ay_at hp 180 (1 - b)) (ay_at hp 179 (1 - b))
  | _, _ => True
noncomputable def ax_XMq3 (b : Nat) : ax_X := fun x vs hp => match x, vs with
  | 2, [] => ay_ex hp 175 ∧ ay_ex hp 177 ∧ ay_ex hp 176 ∧ ay_ex hp 181 ∧ ay_ex hp 173 ∧ ay_M50 (1 - b) (ay_at hp 175 (1 - b)) (ay_at hp 177 (1 - b)) (ay_at hp 176 (1 - b)) (ay_at hp 181) (ay_at hp 173 18)
  | 4, [] => ay_ex hp 182 ∧ ay_ex hp 180 ∧ ay_ex hp 179 ∧ ay_ex hp 173 ∧ ay_ex hp 173 ∧ ay_M52 (1 - b) (ay_at hp 182) (ay_at hp 180 (1 - b)) (ay_at hp 179 (1 - b)) (ay_at hp 173 18) (ay_at hp 173 24)
  | 5, [k, u] => ay_ex hp 179 ∧ ay_ex hp 173 ∧ ay_M53 k u (ay_at hp 179 (1 - b)) (ay_at hp 173 28)
  | 6, [k] => ay_ex hp 176 ∧ ay_ex hp 173 ∧ ay_ex hp 173 ∧ ay_ex hp 173 ∧ ay_M54 k (ay_at hp 176 (1 - b)) (ay_at hp 173 23) (ay_at hp 173 24) (ay_at hp 173 25)
  | 7, [k] => ay_ex hp 179 ∧ ay_M55 k (ay_at hp 179 (1 - b))
  | 8, [k] => ay_ex hp 173 ∧ ay_M56 k (ay_at hp 173 27)
  | 9, [] => ay_ex hp 173 ∧ ay_ex hp 185 ∧ ay_M57 (ay_at hp 173 27) (ay_at hp 185)
  | 10, [] => ay_ex hp 173 ∧ ay_ex hp 185 ∧ ay_M58 (ay_at hp 173 27) (ay_at hp 185)
  | 11, [] => ay_ex hp 173 ∧ ay_ex hp 185 ∧ ay_M59 (ay_at hp 173 27) (ay_at hp 185)
  | 13, [] => ay_ex hp 173 ∧ ay_ex hp 185 ∧ ay_M61 (ay_at hp 173 27) (ay_at hp 185)
  | 14, [] => ay_ex hp 173 ∧ ay_ex hp 173 ∧ ay_ex hp 173 ∧ ay_ex hp 173 ∧ ay_ex hp 183 ∧ ay_M62 (ay_at hp 173 18) (ay_at hp 173 15) (ay_at hp 173 14) (ay_at hp 173 12) (ay_at hp 183)
  | _, _ => True
noncomputable def ax_XMq4 (b : Nat) : ax_X := fun x vs hp => match x, vs with
  | 0, [] => ay_ex hp 181 ∧ ay_ex hp 176 ∧ ay_ex hp 175 ∧ ay_M64 (1 - b) (ay_at hp 181) (ay_at hp 176 (1 - b)) (ay_at hp 175 (1 - b))
  | 1, [] => ay_ex hp 181 ∧ ay_ex hp 176 ∧ ay_ex hp 175 ∧ ay_M65 (1 - b) (ay_at hp 181) (ay_at hp 176 (1 - b)) (ay_at hp 175 (1 - b))
  | _, _ => True
noncomputable def ax_XMq8 (b : Nat) : ax_X := fun x vs hp => match x, vs with
  | 2, [g] => ay_ex hp 173 ∧ ay_ex hp 183 ∧ pz_x30 g (ay_at hp 173 11) (ay_at hp 183)
  | 3, [g] => ay_ex hp 173 ∧ ay_ex hp 183 ∧ pz_x30 g (ay_at hp 173 12) (ay_at hp 183)
  | 6, [g, p, q, u, v, w, k, r] => pz_y134 g p q u v w k r
  | 7, [g] => ay_ex hp 183 ∧ pz_y135 g (ay_at hp 183)
  | 8, [g, p, q, u, v, w, k, r] => pz_y136 g p q u v w k r
  | 9, [g, p, q, u, v, w, r] => r = pz_a20 (p / 4) (q / 4) (u / 4) (v / 4) (w / 4) g 20
  | 10, [g, n, r] => r = pz_cut g (n / 4)
  | 11, [g, s] => pz_gN g = s / 4
  | _, _ => True
noncomputable def ax_XMq9 (b : Nat) : ax_X := fun x vs hp => match x, vs with
  | 7, [g, n] => ay_ex hp 173 ∧ ay_ex hp 173 ∧ ay_ex hp 173 ∧ ay_ex hp 173 ∧ ay_ex hp 173 ∧ pz_y151 g n (ay_at hp 173 13) (ay_at hp 173 14) (ay_at hp 173 15) (ay_at hp 173 16) (ay_at hp 173 17)
  | 8, [g, n] => ay_ex hp 175 ∧ ay_ex hp 176 ∧ ay_ex hp 177 ∧ ay_ex hp 178 ∧ ay_ex hp 179 ∧ ay_ex hp 173 ∧ ay_ex hp 173 ∧ ay_ex hp 173 ∧ ay_ex hp 173 ∧ ay_ex hp 173 ∧ ay_ex hp 181 ∧ pz_y152 (1 - b) g n (ay_at hp 175 (1 - b)) (ay_at hp 176 (1 - b)) (ay_at hp 177 (1 - b)) (ay_at hp 178 (1 - b)) (ay_at hp 179 (1 - b)) (ay_at hp 173 23) (ay_at hp 173 25) (ay_at hp 173 24) (ay_at hp 173 18) (ay_at hp 173 19) (ay_at hp 181)
  | 9, [g, n] => ay_ex hp 173 ∧ pz_at (pz_gt g) (pz_gN g) (ay_ln (ay_at hp 173 13)) = pz_at (pz_gt g) (pz_gN g) (pz_p (pz_cF g n))
  | 10, [g, n] => ay_ex hp 173 ∧ ay_ln (ay_at hp 173 14) = pz_at (pz_gt g) (pz_gN g) (pz_p (pz_cF g n))
  | 11, [g, n] => ay_ex hp 173 ∧ pz_e pz_lt (pz_gt g) (pz_gN g) (ay_ln (ay_at hp 173 13)) = pz_nx (pz_gt g) (pz_gN g) (pz_p (pz_cF g n))
  | 12, [g, n] => ay_ex hp 173 ∧ ay_ln (ay_at hp 173 13) = pz_nx (pz_gt g) (pz_gN g) (pz_p (pz_cF g n))
  | 13, [g, n] => ay_ex hp 173 ∧ pz_at (pz_gt g) (pz_gN g) (ay_ln (ay_at hp 173 14)) = pz_at (pz_gt g) (pz_gN g) (pz_p (pz_cF g n))
  | 14, [g, n] => ay_ex hp 173 ∧ ay_ex hp 173 ∧ pz_y158 g n (ay_at hp 173 13) (ay_at hp 173 16)
  | 15, [g, n] => ay_ex hp 173 ∧ ay_ex hp 173 ∧ pz_y159 g n (ay_at hp 173 13) (ay_at hp 173 16)
  | _, _ => True
noncomputable def ax_XMq10 (b : Nat) : ax_X := fun x vs hp => match x, vs with
  | 0, [g, n, w] => pz60 (pz_gt g) (pz_gN g) (n / 4) (w / 4)
  | 1, [g, n, w] => pz61 (pz_gt g) (pz_gN g) (n / 4) (w / 4)
  | 2, [g, n, w, v] => pz_y162 g n w v
  | 3, [g] => ay_ex hp 173 ∧ ay_ex hp 173 ∧ pz63 (pz_gt g) (pz_gN g) (ay_ln (ay_at hp 173 18)) (ay_ln (ay_at hp 173 19))
  | 4, [g, n, k] => pz64 (pz_gt g) (pz_gN g) (n / 4) (k / 4)
  | 5, [g, n, k] => ay_ex hp 173 ∧ ay_ex hp 173 ∧ pz_y165 g n k (ay_at hp 173 14) (ay_at hp 173 18)
  | 6, [g, n, v] => pz66 (pz_gt g) (pz_gN g) (n / 4) (v / 4)
  | 7, [g, n, a] => pz67 (pz_gt g) (pz_gN g) (n / 4) (a / 4)
  | 8, [g, n, k] => pz_kd (pz_gt g) (pz_gN g) (pz_p (pz_cF g n)) = k / 4
  | 9, [g, n, k] => pz_kd (pz_gt g) (pz_gN g) (pz_p (pz_cF g n)) ≠ k / 4
  | 10, [g, n] => pz7 (pz_gt g) (pz_gN g) (n / 4) 0
  | 11, [g, n] => pz7 (pz_gt g) (pz_gN g) (n / 4) 1
  | 12, [g, n] => pz7 (pz_gt g) (pz_gN g) (n / 4) 2
  | 13, [g, n] => pz7 (pz_gt g) (pz_gN g) (n / 4) 3
  | 14, [g, n] => pz7 (pz_gt g) (pz_gN g) (n / 4) 4
  | 15, [g, n] => pz7 (pz_gt g) (pz_gN g) (n / 4) 5
  | _, _ => True
noncomputable def ax_XMq11 (b : Nat) : ax_X := fun x vs hp => match x, vs with
  | 0, [g, n] => pz7 (pz_gt g) (pz_gN g) (n / 4) 6
  | 1, [g, n] => pz7 (pz_gt g) (pz_gN g) (n / 4) 7
  | 2, [g, n] => pz7 (pz_gt g) (pz_gN g) (n / 4) 8
  | 3, [g, n] => pz7 (pz_gt g) (pz_gN g) (n / 4) 9
  | 4, [g, n, s, u] => pz_y180 g n s u
  | 5, [g, n] => pz_y181 g n
  | 6, [n, m] => m / 4 = n / 4 + 1
  | 11, [g, n, s] => (pz90 (pz_gt g) (pz_gN g) (n / 4) (2 * (s / 4)) ∧ 1 ≤ s / 4)
  | 12, [g, n, s] => (pz90 (pz_gt g) (pz_gN g) (n / 4) (2 * (s / 4) + 1) ∧ 1 ≤ s / 4)
  | 13, [s] => s / 4 = 1
  | 14, [g, n, s] => (pz90 (pz_gt g) (pz_gN g) (n / 4) (s / 4) ∧ 1 ≤ s / 4)
  | _, _ => True
noncomputable def ax_XMq12 (b : Nat) : ax_X := fun x vs hp => match x, vs with
  | 0, [s, r] => pz_strip (s / 4) = r / 4
  | 1, [r, s] => (r / 4 = 2 * (s / 4) ∧ 1 ≤ s / 4)
  | 2, [g, n] => pz94 (pz_gt g) (pz_gN g) (n / 4)
  | 3, [s] => ay_ex hp 173 ∧ ay_ln (ay_at hp 173 28) = pz_dp (s / 4)
  | 4, [s] => ay_ex hp 173 ∧ ay_ex hp 185 ∧ pz_y196 s (ay_at hp 173 27) (ay_at hp 185)
  | 5, [g, n, s] => (pz90 (pz_gt g) (pz_gN g) (n / 4) (pz_strip (s / 4)) ∧ 1 ≤ s / 4)
  | 6, [g, n] => pz_op (pz_kd (pz_gt g) (pz_gN g) (pz_p (pz_cF g n))) = true
  | 7, [g, n, s] => ¬ (pz_kd (pz_gt g) (pz_gN g) (pz_p (pz_cF g n)) = 41 ∧ 1 < s / 4)
  | 11, [g, n, m] => pz_x103 g n m
  | 12, [g, n, v] => pz104 (pz_gt g) (pz_gN g) (n / 4) (v / 4)
  | 15, [g, n, o] => pz107 (pz_gt g) (pz_gN g) (n / 4) (o / 4)
  | _, _ => True
noncomputable def ax_XMq13 (b : Nat) : ax_X := fun x vs hp => match x, vs with
  | 0, [s, r] => (r / 4 = 2 * (s / 4) + 1 ∧ 1 ≤ s / 4)
  | 1, [s, r] => pz_strip (s / 4) = pz_strip (r / 4)
  | 2, [g] => ay_ex hp 175 ∧ ay_ex hp 176 ∧ ay_ex hp 177 ∧ ay_ex hp 178 ∧ ay_ex hp 179 ∧ ay_ex hp 173 ∧ ay_ex hp 173 ∧ ay_ex hp 173 ∧ ay_ex hp 173 ∧ ay_ex hp 173 ∧ ay_ex hp 181 ∧ pz110 (pz_gt g) (pz_gN g) (ay_ln (ay_at hp 175 (1 - b))) (ay_ln (ay_at hp 176 (1 - b))) (ay_ln (ay_at hp 177 (1 - b))) (ay_ln (ay_at hp 178 (1 - b))) (ay_ln (ay_at hp 179 (1 - b))) (ay_ln (ay_at hp 173 23)) (ay_ln (ay_at hp 173 25)) (ay_ln (ay_at hp 173 24)) (ay_ln (ay_at hp 173 18)) (ay_ln (ay_at hp 173 19)) (pz_be (1 - b) (ay_at hp 181)) (pz_fi (1 - b) (ay_at hp 181))
  | 3, [g, n] => pz111 (pz_gt g) (pz_gN g) (n / 4)
  | 4, [g, n, w, i] => pz_x62 g n w i
  | 5, [g, n, a, e] => pz112 (pz_gt g) (pz_gN g) (n / 4) (a / 4) (e / 4)
  | 6, [g, n, a, e] => pz113 (pz_gt g) (pz_gN g) (n / 4) (a / 4) (e / 4)
  | 7, [g, n, a, e, i] => pz_y215 g n a e i
  | 8, [g, n, a, e, l] => ay_ex hp 175 ∧ ay_ex hp 176 ∧ ay_ex hp 177 ∧ ay_ex hp 178 ∧ ay_ex hp 179 ∧ ay_ex hp 173 ∧ ay_ex hp 173 ∧ ay_ex hp 173 ∧ ay_ex hp 173 ∧ ay_ex hp 173 ∧ ay_ex hp 181 ∧ pz_yal 1 (1 - b) g n a e l (ay_at hp 175 (1 - b)) (ay_at hp 176 (1 - b)) (ay_at hp 177 (1 - b)) (ay_at hp 178 (1 - b)) (ay_at hp 179 (1 - b)) (ay_at hp 173 23) (ay_at hp 173 25) (ay_at hp 173 24) (ay_at hp 173 18) (ay_at hp 173 19) (ay_at hp 181)
  | 9, [g, n, a, e, l] => ay_ex hp 175 ∧ ay_ex hp 176 ∧ ay_ex hp 177 ∧ ay_ex hp 178 ∧ ay_ex hp 179 ∧ ay_ex hp 173 ∧ ay_ex hp 173 ∧ ay_ex hp 173 ∧ ay_ex hp 173 ∧ ay_ex hp 173 ∧ ay_ex hp 181 ∧ pz_yal 2 (1 - b) g n a e l (ay_at hp 175 (1 - b)) (ay_at hp 176 (1 - b)) (ay_at hp 177 (1 - b)) (ay_at hp 178 (1 - b)) (ay_at hp 179 (1 - b)) (ay_at hp 173 23) (ay_at hp 173 25) (ay_at hp 173 24) (ay_at hp 173 18) (ay_at hp 173 19) (ay_at hp 181)
  | 14, [g, n] => ay_ex hp 173 ∧ (pz61 (pz_gt g) (pz_gN g) (n / 4) 2 ∨ ay_ln (ay_at hp 173 23) = 1)
  | 15, [g, n] => ay_ex hp 173 ∧ (pz61 (pz_gt g) (pz_gN g) (n / 4) 3 ∨ ay_ln (ay_at hp 173 25) = 1)
  | _, _ => True
noncomputable def ax_XMq14 (b : Nat) : ax_X := fun x vs hp => match x, vs with
  | 0, [g, n] => ay_ex hp 173 ∧ (pz61 (pz_gt g) (pz_gN g) (n / 4) 4 ∨ ay_ln (ay_at hp 173 24) = 1)
  | 2, [g, v] => pz_x126 g v
  | 3, [] => ay_ex hp 173 ∧ ay_ex hp 173 ∧ (ay_ln (ay_at hp 173 20) = 0 ∧ ay_ln (ay_at hp 173 21) = 4294967295)
  | 4, [g] => ay_ex hp 173 ∧ ay_ex hp 173 ∧ pz63 (pz_gt g) (pz_gN g) (ay_ln (ay_at hp 173 20)) (ay_ln (ay_at hp 173 21))
  | _, _ => True
noncomputable def ax_XMq15 (b : Nat) : ax_X := fun x vs hp => match x, vs with
  | 1, [l] => ay_ex hp 180 ∧ ay_ex hp 182 ∧ py_y241 (1 - b) l (ay_at hp 180 (1 - b)) (ay_at hp 182)
  | 2, [s] => ay_ex hp 173 ∧ ay_ex hp 185 ∧ py_y242 s (ay_at hp 173 27) (ay_at hp 185)
  | 3, [l, c] => ay_ex hp 180 ∧ ay_ex hp 182 ∧ py_y243 (1 - b) l c (ay_at hp 180 (1 - b)) (ay_at hp 182)
  | 6, [g, n, s, l] => py_y246 (pz_gt g) (pz_gN g) (n / 4) s l
  | 7, [g, n, s, l] => py_247 (pz_gt g) (pz_gN g) (n / 4) s l
  | 8, [g, n, l] => py_248 (pz_gt g) (pz_gN g) (n / 4) l
  | 9, [p, q, s, l] => py_249 p q s l
  | 10, [c, p, q, s, l] => py_250 c p q s l
  | 11, [r, c, s] => py_251 r c s
  | 13, [p, q, s, l] => py_253 p q s l
  | 14, [s, r] => ay_ex hp 173 ∧ ay_ex hp 185 ∧ py_y254 s r (ay_at hp 173 27) (ay_at hp 185)
  | _, _ => True
noncomputable def ax_XMq16 (b : Nat) : ax_X := fun x vs hp => match x, vs with
  | 0, [s, c] => py_256 s c
  | 1, [g, n, s, l, c] => py_257 (pz_gt g) (pz_gN g) (n / 4) s l c
  | 2, [g, n, c, s, l] => py_258 (pz_gt g) (pz_gN g) (n / 4) c s l
  | 3, [g, n, c] => c / 4 = py_op (pz_kd (pz_gt g) (pz_gN g) (pz_p (pz_cF g n)))
  | 4, [c, p, q, s, l] => py_260 c p q s l
  | 5, [g, n, l] => py_261 g n l
  | 6, [g, l] => py_82 g l
  | _, _ => True
noncomputable def ax_XM (b : Nat) : ax_X := fun x vs hp => bif Nat.blt x 16 then ax_XMq0 b (Nat.sub x 0) vs hp else bif Nat.blt x 32 then ax_XMq1 b (Nat.sub x 16) vs hp else bif Nat.blt x 48 then ax_XMq2 b (Nat.sub x 32) vs hp else bif Nat.blt x 64 then ax_XMq3 b (Nat.sub x 48) vs hp else bif Nat.blt x 80 then ax_XMq4 b (Nat.sub x 64) vs hp else bif Nat.blt x 128 then True else bif Nat.blt x 144 then ax_XMq8 b (Nat.sub x 128) vs hp else bif Nat.blt x 160 then ax_XMq9 b (Nat.sub x 144) vs hp else bif Nat.blt x 176 then ax_XMq10 b (Nat.sub x 160) vs hp else bif Nat.blt x 192 then ax_XMq11 b (Nat.sub x 176) vs hp else bif Nat.blt x 208 then ax_XMq12 b (Nat.sub x 192) vs hp else bif Nat.blt x 224 then ax_XMq13 b (Nat.sub x 208) vs hp else bif Nat.blt x 240 then ax_XMq14 b (Nat.sub x 224) vs hp else bif Nat.blt x 256 then ax_XMq15 b (Nat.sub x 240) vs hp else bif Nat.blt x 272 then ax_XMq16 b (Nat.sub x 256) vs hp else True
