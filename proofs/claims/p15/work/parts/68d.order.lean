section
/-! Degrees, ranks, up ends -/
def cnt (p : Nat → Bool) : Nat → Nat
  | 0 => 0
  | n + 1 => cnt p n + if p n then 1 else 0
theorem cnt_le (p : Nat → Bool) : ∀ n, cnt p n ≤ n
  | 0 => Nat.le_refl 0
  | n + 1 => by
    have := cnt_le p n
    show cnt p n + (if p n then 1 else 0) ≤ n + 1
    split <;> omega
theorem cnt_congr {p q : Nat → Bool} : ∀ {n : Nat}, (∀ i, i < n → p i = q i) → cnt p n = cnt q n
  | 0, _ => rfl
  | n + 1, h => by
    show cnt p n + (if p n then 1 else 0) = cnt q n + (if q n then 1 else 0)
    rw [cnt_congr (fun i hi => h i (by omega)), h n (by omega)]
/-- how many channels that stand begin at v -/
noncomputable def dgc (E : Nat → Nat) (st : Nat → Bool) (v k : Nat) : Nat := cnt (fun c => st (c / 2) && Nat.beq (E c) v) k
/-- what an operation of a formula does -/
noncomputable def wop (c x y : Nat) : Nat := if c = 1003 then i_add x y else if c = 1004 then i_sub x y else if c = 1005 then i_mul x y else if c = 1006 then (if y = 0 then 0 else i_div x y) else (if y = 0 then 0 else i_rem x y)
noncomputable def ev1 (fa vv dg c : Nat) (s : Nat × (Nat → Nat)) : Nat × (Nat → Nat) := if c = 1008 then (s.1, fun j => if j = s.1 - 1 then i_neg (s.2 (s.1 - 1)) else s.2 j) else if 1003 ≤ c then (s.1 - 1, fun j => if j = s.1 - 2 then wop c (s.2 (s.1 - 2)) (s.2 (s.1 - 1)) else s.2 j) else (s.1 + 1, fun j => if j = s.1 then (if c = 1000 then fa else if c = 1001 then vv else if c = 1002 then dg else c) else s.2 j)
/-- behind the first k codes -/
noncomputable def evk (fa vv dg : Nat) (C : Nat → Nat) : Nat → Nat × (Nat → Nat)
  | 0 => (0, fun _ => 0)
  | k + 1 => ev1 fa vv dg (C k) (evk fa vv dg C k)
/-- the height of the stack: it hangs on the codes alone -/
def hgt (C : Nat → Nat) : Nat → Nat
  | 0 => 0
  | k + 1 => if C k = 1008 then hgt C k else if 1003 ≤ C k then hgt C k - 1 else hgt C k + 1
theorem evk_h (fa vv dg : Nat) (C : Nat → Nat) : ∀ k, (evk fa vv dg C k).1 = hgt C k
  | 0 => rfl
  | k + 1 => by
    have ih := evk_h fa vv dg C k
    show (ev1 fa vv dg (C k) (evk fa vv dg C k)).1 = (if C k = 1008 then hgt C k else if 1003 ≤ C k then hgt C k - 1 else hgt C k + 1)
    unfold ev1
    split
    · exact ih
    · split
      · rw [← ih]
      · rw [← ih]
theorem hgt_le (C : Nat → Nat) : ∀ k, hgt C k ≤ k
  | 0 => Nat.le_refl 0
  | k + 1 => by
    have ih := hgt_le C k
    show (if C k = 1008 then hgt C k else if 1003 ≤ C k then hgt C k - 1 else hgt C k + 1) ≤ k + 1
    split
    · omega
    · split <;> omega
/-- a formula's code: nothing is taken from where nothing lies -/
def cd_ok (C : Nat → Nat) (N : Nat) : Prop := N ≤ 80 ∧ ∀ k, k < N → (C k ≤ 1008 ∧ (C k = 1008 → 1 ≤ hgt C k) ∧ (1003 ≤ C k → C k ≠ 1008 → 2 ≤ hgt C k) ∧ (C k < 1003 → C k ≤ 1002))
noncomputable def rk (C : Nat → Nat) (N : Nat) (far deg : Nat → Nat) (v : Nat) : Nat := if N = 0 then far v else (evk (far v) v (deg v) C N).2 0
/-- how the class tells a code -/
def cop (c : Nat) : Nat := if c = 1000 then 2 else if c = 1001 then 3 else if c = 1002 then 4 else if c = 1003 then 43 else if c = 1004 then 45 else if c = 1005 then 42 else if c = 1006 then 47 else if c = 1007 then 37 else if c = 1008 then 5 else 1
def cc (F : fx_F) (C : Nat → Nat) (N : Nat) : Prop := F 3 5 = N ∧ ∀ k, k < N → F 8 k = cop (C k) ∧ (C k < 1000 → F 9 k = C k)
/-- who is above -/
noncomputable def abv (R : Nat → Nat) (x y : Nat) : Prop := s_lt (R x) (R y) ∨ (R x = R y ∧ x < y)
section ORD
variable {nn L s r : Nat} {E : Nat → Nat} {v : fx_V} {F' : fx_F} {C : Nat → Nat} {N : Nat}
theorem cl28 (hN : nt_ok nn L E) (hs : s < 2147483648) : ∀ (n : Nat) (F : fx_F) (c : Nat), Rn n k_Or_countLinks 28 [(2, 19), (0, s), (0, c)] [] F v F' → cn F nn L E → c ≤ 2 * L → (∀ u, u < nn → F 21 u = dgc E (fun l => s.testBit l) u c) → fxo [21] F F' ∧ ∀ u, u < nn → F' 21 u = dgc E (fun l => s.testBit l) u (2 * L) := by
  intro n
  induction n using Nat.strongRecOn with
  | ind n ih =>
    intro F c h hc hcL hI
    have q := q_Or_countLinks_28 h
    have hL := hN.2.1
    have hn := hN.1
    rw [hc.2.1, b_mul (by omega)] at q
    rcases Nat.lt_or_ge c (2 * L) with hl | hl
    · replace q := q.2 (by rw [b_lt (by omega) (by omega)]; exact hl)
      rw [b_bit hs (by omega), (hc.2.2 c hl).1, b_add (show c + 1 < 4294967296 by omega)] at q
      have hE1 := (hN.2.2 c hl).1
      cases hb : s.testBit (c / 2) with
      | false =>
        rw [hb] at q
        obtain ⟨m, hm, hR⟩ := q.1 (by decide)
        refine ih m hm F (c + 1) hR hc (by omega) (fun u hu => ?_)
        rw [hI u hu]
        show dgc E (fun l => s.testBit l) u c = dgc E (fun l => s.testBit l) u c + (if (s.testBit (c / 2) && Nat.beq (E c) u) then 1 else 0)
        rw [hb]
        rfl
      | true =>
        rw [hb] at q
        obtain ⟨m, hm, hR⟩ := q.2 rfl
        have hd := hI (E c) hE1
        have hle : dgc E (fun l => s.testBit l) (E c) c ≤ c := cnt_le _ c
        rw [b_add (show F 21 (E c) + 1 < 4294967296 by omega)] at hR
        have ho : fxo [21] F (fu F 21 (E c) (F 21 (E c) + 1)) := fxo.rf.wr List.mem_cons_self
        obtain ⟨r1, r2⟩ := ih m hm _ (c + 1) hR (hc.keep ho (by decide) (by decide) (by decide)) (by omega) (fun u hu => by
          show _ = dgc E (fun l => s.testBit l) u c + (if (s.testBit (c / 2) && Nat.beq (E c) u) then 1 else 0)
          rw [hb, Bool.true_and]
          by_cases hz : u = E c
          · subst hz
            rw [fu_same, Nat.beq_refl, if_pos rfl, hd]
          · rw [fu_i hz, show Nat.beq (E c) u = false from Bool.eq_false_iff.mpr (fun z => hz (rx_beq.mp z).symm), hI u hu]
            rfl)
        exact ⟨ho.tr r1, r2⟩
    · obtain ⟨-, e⟩ := q.1 (by rw [b_le (by omega) (by omega)]; exact hl)
      subst e
      have : c = 2 * L := by omega
      rw [← this]
      exact ⟨fxo.rf, hI⟩
theorem s_countLinks (hN : nt_ok nn L E) (hs : s < 2147483648) {F : fx_F} (hc : cn F nn L E) (h : Cl k_Or_countLinks [(2, 19), (0, s)] F v F') : fxo [21] F F' ∧ ∀ u, u < nn → F' 21 u = dgc E (fun l => s.testBit l) u (2 * L) := by
  obtain ⟨n, h⟩ := c_Or_countLinks h
  have hL := hN.2.1
  have hn := hN.1
  obtain ⟨m, hm, hR⟩ := q_Or_countLinks_0 h
  have lp : ∀ (n : Nat) (F : fx_F) (i : Nat), Rn n k_Or_countLinks 2 [(2, 19), (0, s), (0, i)] [] F v F' → cn F nn L E → i ≤ nn → (∀ u, u < i → F 21 u = 0) → fxo [21] F F' ∧ ∀ u, u < nn → F' 21 u = dgc E (fun l => s.testBit l) u (2 * L) := by
    intro n
    induction n using Nat.strongRecOn with
    | ind n ih =>
      intro F i h hc hi hI
      have q := q_Or_countLinks_2 h
      rw [hc.1] at q
      rcases Nat.lt_or_ge i nn with hl | hl
      · obtain ⟨m, hm, hR⟩ := q.2 (by rw [b_lt (by omega) (by omega)]; exact hl)
        rw [b_add (show i + 1 < 4294967296 by omega)] at hR
        have ho : fxo [21] F (fu F 21 i 0) := fxo.rf.wr List.mem_cons_self
        obtain ⟨r1, r2⟩ := ih m hm _ (i + 1) hR (hc.keep ho (by decide) (by decide) (by decide)) (by omega) (fun u hu => by
          by_cases hz : u = i
          · rw [hz, fu_same]
          · rw [fu_i hz]; exact hI u (by omega))
        exact ⟨ho.tr r1, r2⟩
      · obtain ⟨m, hm, hR⟩ := q.1 (by rw [b_le (by omega) (by omega)]; exact hl)
        exact cl28 hN hs m F 0 hR hc (Nat.zero_le _) (fun u hu => hI u (by omega))
  exact lp m F 0 hR hc (Nat.zero_le _) (fun u hu => absurd hu (Nat.not_lt_zero _))
/-- the stack lies in an array -/
noncomputable def stk (A : Nat → Nat) (s : Nat × (Nat → Nat)) : Prop := ∀ j, j < s.1 → A j = s.2 j
theorem fxl23 : fx_len fx_w 23 = 80 := by decide +kernel
theorem ev4 {u fa dg : Nat} (hC : cd_ok C N) (hu : u < 10) : ∀ (n : Nat) (F : fx_F) (k : Nat), Rn n k_Or_evaluate 4 [(2, 19), (0, u), (0, hgt C k), (0, k), (3, 0)] [] F v F' → cc F C N → F 20 u = fa → F 21 u = dg → k ≤ N → stk (F 23) (evk fa u dg C k) → ∃ x, v = (0, x) ∧ fxo [23] F F' ∧ (0 < hgt C N → x = (evk fa u dg C N).2 0) := by
  intro n
  induction n using Nat.strongRecOn with
  | ind n ih =>
    intro F k h hc hfa hdg hk hI
    have q := q_Or_evaluate_4 h
    have hN := hC.1
    have hle := hgt_le C k
    rw [hc.1] at q
    rcases Nat.lt_or_ge k N with hl | hl
    · replace q := q.2 (by rw [b_lt (by omega) (by omega)]; exact hl)
      obtain ⟨o1, o2, o3, o4⟩ := hC.2 k hl
      obtain ⟨p1, p2⟩ := hc.2 k hl
      rw [p1, b_add (show k + 1 < 4294967296 by omega)] at q
      have go : ∀ (F2 : fx_F), (∃ m, m < n ∧ Rn m k_Or_evaluate 4 [(2, 19), (0, u), (0, hgt C (k + 1)), (0, k + 1), (3, 0)] [] F2 v F') → fxo [23] F F2 → stk (F2 23) (evk fa u dg C (k + 1)) → ∃ x, v = (0, x) ∧ fxo [23] F F' ∧ (0 < hgt C N → x = (evk fa u dg C N).2 0) := by
        intro F2 ⟨m, hm, hR⟩ ho hS
        have e : ∀ q i, q ≠ 23 → F2 q i = F q i := fun q i hq => ho q i (fun z => hq (List.mem_singleton.mp z))
        obtain ⟨x, r1, r2, r3⟩ := ih m hm F2 (k + 1) hR ⟨(e 3 5 (by decide)).trans hc.1, fun j hj => by rw [e 8 j (by decide), e 9 j (by decide)]; exact hc.2 j hj⟩ ((e 20 u (by decide)).trans hfa) ((e 21 u (by decide)).trans hdg) (by omega) hS
        exact ⟨x, r1, ho.tr r2, r3⟩
      have hw : ∀ j x, fxo [23] F (fu F 23 j x) := fun j x => fxo.rf.wr List.mem_cons_self
      have hh := evk_h fa u dg C k
      have hst : ∀ j, j < hgt C k → F 23 j = (evk fa u dg C k).2 j := fun j hj => hI j (by rw [hh]; exact hj)
      by_cases hm8 : C k = 1008
      · -- minus
        have h1 := o2 hm8
        have e1 : hgt C (k + 1) = hgt C k := by show (if C k = 1008 then hgt C k else _) = _; rw [if_pos hm8]
        have e2 : evk fa u dg C (k + 1) = ((evk fa u dg C k).1, fun j => if j = (evk fa u dg C k).1 - 1 then i_neg ((evk fa u dg C k).2 ((evk fa u dg C k).1 - 1)) else (evk fa u dg C k).2 j) := by
          show ev1 fa u dg (C k) (evk fa u dg C k) = _
          unfold ev1
          rw [if_pos hm8]
        rw [hm8] at q
        replace q := (q.2 rfl).2 (by rw [b_le (by decide) (by omega)]; exact h1)
        rw [b_sub h1 (by omega)] at q
        refine go _ (by rw [e1]; exact q) (hw _ _) ?_
        rw [e2, hh]
        intro j hj
        show fu F 23 (hgt C k - 1) _ 23 j = if j = hgt C k - 1 then _ else _
        by_cases hz : j = hgt C k - 1
        · rw [if_pos hz, hz, fu_same, hst _ (by omega)]
        · rw [if_neg hz, fu_i hz]
          exact hst j hj
      · by_cases hb3 : 1003 ≤ C k
        · -- an operation
          have h2 := o3 hb3 hm8
          have e1 : hgt C (k + 1) = hgt C k - 1 := by show (if C k = 1008 then hgt C k else if 1003 ≤ C k then hgt C k - 1 else _) = _; rw [if_neg hm8, if_pos hb3]
          have e2 : evk fa u dg C (k + 1) = ((evk fa u dg C k).1 - 1, fun j => if j = (evk fa u dg C k).1 - 2 then wop (C k) ((evk fa u dg C k).2 ((evk fa u dg C k).1 - 2)) ((evk fa u dg C k).2 ((evk fa u dg C k).1 - 1)) else (evk fa u dg C k).2 j) := by
            show ev1 fa u dg (C k) (evk fa u dg C k) = _
            unfold ev1
            rw [if_neg hm8, if_pos hb3]
          have hx := hst (hgt C k - 2) (by omega)
          have hy := hst (hgt C k - 1) (by omega)
          have hi1 : i_add (hgt C k) 4294967295 = hgt C k - 1 := b_dec (by omega) (by omega)
          have hi2 : i_sub (hgt C k - 1) 1 = hgt C k - 2 := by rw [b_sub (by omega) (by omega)]; omega
          have fin : ∀ F2, F2 = fu F 23 (hgt C k - 2) (wop (C k) (F 23 (hgt C k - 2)) (F 23 (hgt C k - 1))) → (∃ m, m < n ∧ Rn m k_Or_evaluate 4 [(2, 19), (0, u), (0, hgt C k - 1), (0, k + 1), (3, 0)] [] F2 v F') → ∃ x, v = (0, x) ∧ fxo [23] F F' ∧ (0 < hgt C N → x = (evk fa u dg C N).2 0) := by
            intro F2 eF q
            subst eF
            refine go _ (by rw [e1]; exact q) (hw _ _) ?_
            rw [e2, hh]
            intro j hj
            replace hj : j < hgt C k - 1 := hj
            show fu F 23 (hgt C k - 2) _ 23 j = if j = hgt C k - 2 then _ else _
            by_cases hz : j = hgt C k - 2
            · rw [if_pos hz, hz, fu_same, hx, hy]
            · rw [if_neg hz, fu_i hz]
              exact hst j (by omega)
          have hcs : C k = 1003 ∨ C k = 1004 ∨ C k = 1005 ∨ C k = 1006 ∨ C k = 1007 := by clear q; omega
          rw [hi1, hi2] at q
          rcases hcs with e | e | e | e | e <;> rw [e] at q fin <;> unfold wop at fin
          · replace q := (((q.1 (by decide)).1 (by rw [b_le (by decide) (by decide)]; decide)).2 (by rw [b_le (by decide) (by omega)]; exact h2)).2.2.1 rfl
            exact fin _ (by rw [if_pos rfl]) q
          · replace q := (((q.1 (by decide)).1 (by rw [b_le (by decide) (by decide)]; decide)).2 (by rw [b_le (by decide) (by omega)]; exact h2)).2.2.2.2.1 rfl
            exact fin _ (by rw [if_neg (by decide), if_pos rfl]) q
          · replace q := (((q.1 (by decide)).1 (by rw [b_le (by decide) (by decide)]; decide)).2 (by rw [b_le (by decide) (by omega)]; exact h2)).2.1 rfl
            exact fin _ (by rw [if_neg (by decide), if_neg (by decide), if_pos rfl]) q
          · replace q := (((q.1 (by decide)).1 (by rw [b_le (by decide) (by decide)]; decide)).2 (by rw [b_le (by decide) (by omega)]; exact h2)).2.2.2.2.2.2.1 rfl
            by_cases hy0 : F 23 (hgt C k - 1) = 0
            · exact fin _ (by rw [if_neg (by decide), if_neg (by decide), if_neg (by decide), if_pos rfl, if_pos hy0]) (q.2 hy0)
            · exact fin _ (by rw [if_neg (by decide), if_neg (by decide), if_neg (by decide), if_pos rfl, if_neg hy0]) (q.1 hy0)
          · replace q := (((q.1 (by decide)).1 (by rw [b_le (by decide) (by decide)]; decide)).2 (by rw [b_le (by decide) (by omega)]; exact h2)).1 (Or.inl (by decide))
            by_cases hy0 : F 23 (hgt C k - 1) = 0
            · exact fin _ (by rw [if_neg (by decide), if_neg (by decide), if_neg (by decide), if_neg (by decide), if_pos hy0]) (q.2 hy0)
            · exact fin _ (by rw [if_neg (by decide), if_neg (by decide), if_neg (by decide), if_neg (by decide), if_neg hy0]) (q.1 hy0)
        · -- a unit
          have e1 : hgt C (k + 1) = hgt C k + 1 := by show (if C k = 1008 then hgt C k else if 1003 ≤ C k then hgt C k - 1 else hgt C k + 1) = _; rw [if_neg hm8, if_neg hb3]
          have e2 : evk fa u dg C (k + 1) = ((evk fa u dg C k).1 + 1, fun j => if j = (evk fa u dg C k).1 then (if C k = 1000 then fa else if C k = 1001 then u else if C k = 1002 then dg else C k) else (evk fa u dg C k).2 j) := by
            show ev1 fa u dg (C k) (evk fa u dg C k) = _
            unfold ev1
            rw [if_neg hm8, if_neg hb3]
          rw [fxl23, hfa, hdg, b_add (show hgt C k + 1 < 4294967296 by omega)] at q
          have fin : ∀ x, x = (if C k = 1000 then fa else if C k = 1001 then u else if C k = 1002 then dg else C k) → (∃ m, m < n ∧ Rn m k_Or_evaluate 4 [(2, 19), (0, u), (0, hgt C k + 1), (0, k + 1), (3, 0)] [] (fu F 23 (hgt C k) x) v F') → ∃ x, v = (0, x) ∧ fxo [23] F F' ∧ (0 < hgt C N → x = (evk fa u dg C N).2 0) := by
            intro x ex q
            refine go _ (by rw [e1]; exact q) (hw _ _) ?_
            rw [e2, hh]
            intro j hj
            replace hj : j < hgt C k + 1 := hj
            show fu F 23 (hgt C k) _ 23 j = if j = hgt C k then _ else _
            by_cases hz : j = hgt C k
            · rw [if_pos hz, hz, fu_same, ex]
            · rw [if_neg hz, fu_i hz]
              exact hst j (by omega)
          have h80 : s_lt (hgt C k) 80 := by rw [b_lt (by omega) (by decide)]; omega
          by_cases z0 : C k = 1000
          · rw [z0] at q fin
            replace q := ((((q.1 (by decide)).2 (by show s_lt 2 5; rw [b_lt (by decide) (by decide)]; decide)).2 h80).2.1 rfl)
            exact fin _ (by rw [if_pos rfl]) q
          by_cases z1 : C k = 1001
          · rw [z1] at q fin
            replace q := ((((q.1 (by decide)).2 (by show s_lt 3 5; rw [b_lt (by decide) (by decide)]; decide)).2 h80).2.2.1 rfl)
            exact fin _ (by rw [if_neg (by decide), if_pos rfl]) q
          by_cases z2 : C k = 1002
          · rw [z2] at q fin
            replace q := ((((q.1 (by decide)).2 (by show s_lt 4 5; rw [b_lt (by decide) (by decide)]; decide)).2 h80).2.2.2.1 rfl)
            exact fin _ (by rw [if_neg (by decide), if_neg (by decide), if_pos rfl]) q
          have hlt : C k < 1000 := by clear q; omega
          have ecop : cop (C k) = 1 := by
            unfold cop
            rw [if_neg z0, if_neg z1, if_neg z2, if_neg (by omega), if_neg (by omega), if_neg (by omega), if_neg (by omega), if_neg (by omega), if_neg (by omega)]
          rw [ecop, p2 hlt] at q
          replace q := (((q.1 (by decide)).2 (by rw [b_lt (by decide) (by decide)]; decide)).2 h80).1 (Or.inl (by decide))
          exact fin _ (by rw [if_neg z0, if_neg z1, if_neg z2]) q
    · obtain ⟨e1, e2⟩ := q.1 (by rw [b_le (by omega) (by omega)]; exact hl)
      subst e2
      have : k = N := by omega
      subst this
      exact ⟨_, e1, fxo.rf, fun hz => hI 0 (by rw [evk_h]; exact hz)⟩
theorem s_evaluate {u : Nat} (hC : cd_ok C N) (hu : u < 10) {F : fx_F} (hc : cc F C N) (h : Cl k_Or_evaluate [(2, 19), (0, u)] F v F') : ∃ x, v = (0, x) ∧ fxo [23] F F' ∧ (0 < hgt C N → x = (evk (F 20 u) u (F 21 u) C N).2 0) := by
  obtain ⟨n, h⟩ := c_Or_evaluate h
  obtain ⟨m, hm, hR⟩ := q_Or_evaluate_0 h
  exact ev4 hC hu m F 0 hR hc rfl rfl (Nat.zero_le _) (fun j hj => absurd hj (Nat.not_lt_zero _))
end ORD
end
section
/-- FAR -/
noncomputable def fr (L : Nat) (E : Nat → Nat) (st : Nat → Bool) (r v : Nat) : Nat := @dite Nat (∃ d, ds L E st r d v) (Classical.propDecidable _) (fun h => h.choose) (fun _ => 10)
section RATE
variable {nn L s r : Nat} {E : Nat → Nat} {st : Nat → Bool} {v : fx_V} {F' : fx_F} {C : Nat → Nat} {N : Nat}
theorem fr_ds {d u : Nat} (h : ds L E st r d u) : fr L E st r u = d := by
  unfold fr
  rw [dif_pos ⟨d, h⟩]
  exact ds_fun (Exists.choose_spec (⟨d, h⟩ : ∃ d, ds L E st r d u)) h
theorem fr_no {u : Nat} (h : ∀ d, ¬ ds L E st r d u) : fr L E st r u = 10 := by
  unfold fr
  rw [dif_neg (fun ⟨d, hd⟩ => h d hd)]
theorem fr_le {u : Nat} (hN : nt_ok nn L E) (hr : r < nn) : fr L E st r u ≤ 10 := by
  by_cases h : ∃ d, ds L E st r d u
  · obtain ⟨d, hd⟩ := h
    rw [fr_ds hd]
    have := ds_lt hr (fun j hj => (hN.2.2 j hj).1) hd
    have := hN.1
    omega
  · rw [fr_no (fun d hd => h ⟨d, hd⟩)]
    exact Nat.le_refl _
theorem fr_lt {u : Nat} (hN : nt_ok nn L E) (hr : r < nn) (h : ∃ d, ds L E st r d u) : fr L E st r u < 10 := by
  obtain ⟨d, hd⟩ := h
  rw [fr_ds hd]
  have := ds_lt hr (fun j hj => (hN.2.2 j hj).1) hd
  have := hN.1
  omega
theorem rt21 (hN : nt_ok nn L E) (hC : cd_ok C N) (hC2 : N ≠ 0 → 0 < hgt C N) {fa dg : Nat → Nat} : ∀ (n : Nat) (F : fx_F) (i : Nat), Rn n k_Or_rate 21 [(2, 19), (3, 0), (3, 0), (0, i)] [] F v F' → F 3 0 = nn → cc F C N → i ≤ nn → (∀ u, u < nn → F 21 u = dg u) → (∀ u, u < i → F 20 u = fa u ∧ F 22 u = rk C N fa dg u) → (∀ u, i ≤ u → u < nn → (F 20 u = 4294967295 → fa u = 10) ∧ (F 20 u ≠ 4294967295 → fa u = F 20 u)) → fxo [20, 22, 23] F F' ∧ ∀ u, u < nn → F' 20 u = fa u ∧ F' 21 u = dg u ∧ F' 22 u = rk C N fa dg u := by
  intro n
  induction n using Nat.strongRecOn with
  | ind n ih =>
    intro F i h h0 hc hi hd hI hJ
    have q := q_Or_rate_21 h
    have hn := hN.1
    rw [h0, hc.1] at q
    rcases Nat.lt_or_ge i nn with hl | hl
    · replace q := q.2 (by rw [b_lt (by omega) (by omega)]; exact hl)
      rw [b_add (show i + 1 < 4294967296 by omega)] at q
      obtain ⟨j1, j2⟩ := hJ i (Nat.le_refl i) hl
      have go : ∀ (F2 : fx_F), (∃ m, m < n ∧ Rn m k_Or_rate 21 [(2, 19), (3, 0), (3, 0), (0, i + 1)] [] F2 v F') → fxo [20, 22, 23] F F2 → (∀ u, u ≠ i → F2 20 u = F 20 u ∧ F2 22 u = F 22 u) → F2 20 i = fa i → F2 22 i = rk C N fa dg i → fxo [20, 22, 23] F F' ∧ ∀ u, u < nn → F' 20 u = fa u ∧ F' 21 u = dg u ∧ F' 22 u = rk C N fa dg u := by
        intro F2 ⟨m, hm, hR⟩ ho hu h1 h2
        have e : ∀ q i, q ∉ [20, 22, 23] → F2 q i = F q i := ho
        obtain ⟨r1, r2⟩ := ih m hm F2 (i + 1) hR ((e 3 0 (by decide)).trans h0) ⟨(e 3 5 (by decide)).trans hc.1, fun j hj => by rw [e 8 j (by decide), e 9 j (by decide)]; exact hc.2 j hj⟩ (by omega) (fun u hu => (e 21 u (by decide)).trans (hd u hu)) (fun u hu2 => by
          by_cases hz : u = i
          · rw [hz]; exact ⟨h1, h2⟩
          · rw [(hu u hz).1, (hu u hz).2]; exact hI u (by omega)) (fun u hu2 hu3 => by
          rw [(hu u (by omega)).1]
          exact hJ u (by omega) hu3)
        exact ⟨ho.tr r1, r2⟩
      have ex : ∀ F1 : fx_F, F1 20 i = fa i → F1 21 i = dg i → ∀ x, (0 < hgt C N → x = (evk (F1 20 i) i (F1 21 i) C N).2 0) → N ≠ 0 → x = rk C N fa dg i := by
        intro F1 h1 h2 x hx hN0
        rw [hx (hC2 hN0), h1, h2]
        unfold rk
        rw [if_neg hN0]
      by_cases hf : F 20 i = 4294967295
      · replace q := q.2 hf
        have hfa := j1 hf
        by_cases hN0 : N = 0
        · replace q := q.2 hN0
          refine go _ q ((fxo.rf.wr (by decide)).wr (by decide)) (fun u hu => ?_) ?_ ?_
          · rw [fu_p (by decide), fu_i hu, fu_i hu, fu_p (by decide)]
            exact ⟨rfl, rfl⟩
          · rw [fu_p (by decide), fu_same, hfa]
          · rw [fu_same, fu_same]
            unfold rk
            rw [if_pos hN0, hfa]
        · obtain ⟨n1, F1, c1, q⟩ := q.1 hN0
          have cc1 : cc (fu F 20 i 10) C N := ⟨by rw [fu_p (by decide)]; exact hc.1, fun j hj => by rw [fu_p (by decide), fu_p (by decide)]; exact hc.2 j hj⟩
          obtain ⟨x, e1, e2, e3⟩ := s_evaluate hC (by omega) cc1 c1
          cases e1
          have o1 : ∀ q j, q ≠ 23 → F1 q j = fu F 20 i 10 q j := fun q j hq => e2 q j (fun z => hq (List.mem_singleton.mp z))
          have h20 : fu F 20 i 10 20 i = fa i := by rw [fu_same, hfa]
          have h21 : fu F 20 i 10 21 i = dg i := by rw [fu_p (by decide)]; exact hd i hl
          refine go _ q ((((fxo.rf.wr (by decide)).tr (e2.mono (by decide)))).wr (by decide)) (fun u hu => ?_) ?_ ?_
          · rw [fu_p (by decide), o1 20 u (by decide), fu_i hu, fu_i hu, o1 22 u (by decide), fu_p (by decide)]
            exact ⟨rfl, rfl⟩
          · rw [fu_p (by decide), o1 20 i (by decide)]; exact h20
          · rw [fu_same]; exact ex _ h20 h21 _ e3 hN0
      · replace q := q.1 hf
        have hfa := j2 hf
        by_cases hN0 : N = 0
        · replace q := q.2 hN0
          refine go _ q (fxo.rf.wr (by decide)) (fun u hu => ?_) ?_ ?_
          · rw [fu_p (by decide), fu_i hu]
            exact ⟨rfl, rfl⟩
          · rw [fu_p (by decide), hfa]
          · rw [fu_same]
            unfold rk
            rw [if_pos hN0, hfa]
        · obtain ⟨n1, F1, c1, q⟩ := q.1 hN0
          obtain ⟨x, e1, e2, e3⟩ := s_evaluate hC (by omega) hc c1
          cases e1
          have o1 : ∀ q j, q ≠ 23 → F1 q j = F q j := fun q j hq => e2 q j (fun z => hq (List.mem_singleton.mp z))
          refine go _ q ((e2.mono (by decide)).wr (by decide)) (fun u hu => ?_) ?_ ?_
          · rw [fu_p (by decide), o1 20 u (by decide), fu_i hu, o1 22 u (by decide)]
            exact ⟨rfl, rfl⟩
          · rw [fu_p (by decide), o1 20 i (by decide), hfa]
          · rw [fu_same]; exact ex _ hfa.symm (hd i hl) _ e3 hN0
    · obtain ⟨-, e⟩ := q.1 (by rw [b_le (by omega) (by omega)]; exact hl)
      subst e
      exact ⟨fxo.rf, fun u hu => ⟨(hI u (by omega)).1, hd u hu, (hI u (by omega)).2⟩⟩
/-- ranks -/
theorem s_rate (hN : nt_ok nn L E) (hC : cd_ok C N) (hC2 : N ≠ 0 → 0 < hgt C N) (hs : s < 2147483648) (hr : r < nn ∨ nn = 0) (hr2 : r < 10) {F : fx_F} (hc : cn F nn L E) (hcc : cc F C N) (h : Cl k_Or_rate [(2, 19), (0, r), (0, s)] F v F') : fxo [20, 21, 22, 23] F F' ∧ ∀ u, u < nn → F' 20 u = fr L E (fun l => s.testBit l) r u ∧ F' 21 u = dgc E (fun l => s.testBit l) u (2 * L) ∧ F' 22 u = rk C N (fr L E (fun l => s.testBit l) r) (fun u => dgc E (fun l => s.testBit l) u (2 * L)) u := by
  obtain ⟨n, h⟩ := c_Or_rate h
  obtain ⟨F1, c1, F2, c2, m, hm, hR⟩ := q_Or_rate_0 h
  obtain ⟨a1, a2⟩ := s_countLinks hN hs hc c1
  have hc1 : cn F1 nn L E := hc.keep a1 (by decide) (by decide) (by decide)
  have o1 : ∀ q j, q ≠ 21 → F1 q j = F q j := fun q j hq => a1 q j (fun z => hq (List.mem_singleton.mp z))
  have key : fxo [20] F1 F2 ∧ ∀ u, u < nn → (F2 20 u = 4294967295 → fr L E (fun l => s.testBit l) r u = 10) ∧ (F2 20 u ≠ 4294967295 → fr L E (fun l => s.testBit l) r u = F2 20 u) := by
    rcases hr with hr | hr
    · obtain ⟨b1, b2⟩ := s_spread hN hc1 hr hs (by decide) ⟨by decide, by decide, by decide⟩ c2
      refine ⟨b1.1, fun u hu => ?_⟩
      obtain ⟨d1, d2⟩ := b2 u hu
      have e0 : F2 20 (0 + u) = F2 20 u := by rw [Nat.zero_add]
      dsimp only at d1 d2
      rw [e0] at d1 d2
      refine ⟨fun z => fr_no (fun d hd => ?_), fun z => fr_ds (d1 z)⟩
      have e1 := d2 d hd
      have := ds_lt hr (fun j hj => (hN.2.2 j hj).1) hd
      have := hN.1
      omega
    · obtain ⟨n2, c2⟩ := c_Gr_spread c2
      have q := (q_Gr_spread_0 c2).2 (by rw [b_le (by decide) (by omega)]; exact Nat.zero_le _)
      rw [hc1.1] at q
      obtain ⟨-, e⟩ := q.1 (by rw [b_le (by omega) (by omega)]; omega)
      subst e
      exact ⟨fxo.rf, fun u hu => absurd hu (by omega)⟩
  obtain ⟨b1, b2⟩ := key
  have o2 : ∀ q j, q ≠ 20 → F2 q j = F1 q j := fun q j hq => b1 q j (fun z => hq (List.mem_singleton.mp z))
  obtain ⟨r1, r2⟩ := rt21 hN hC hC2 m F2 0 hR ((o2 3 0 (by decide)).trans hc1.1) ⟨(o2 3 5 (by decide)).trans ((o1 3 5 (by decide)).trans hcc.1), fun j hj => by rw [o2 8 j (by decide), o1 8 j (by decide), o2 9 j (by decide), o1 9 j (by decide)]; exact hcc.2 j hj⟩ (Nat.zero_le _) (fun u hu => (o2 21 u (by decide)).trans (a2 u hu)) (fun u hu => absurd hu (Nat.not_lt_zero _)) (fun u _ hu => b2 u hu)
  exact ⟨((a1.mono (by decide)).tr (b1.mono (by decide))).tr (r1.mono (by decide)), r2⟩
theorem tb_or {a l j : Nat} : (a ||| 2 ^ l).testBit j = (a.testBit j || decide (j = l)) := by
  rw [Nat.testBit_or, Nat.testBit_two_pow]
  by_cases h : l = j
  · rw [decide_eq_true h, decide_eq_true h.symm]
  · rw [decide_eq_false h, decide_eq_false (fun z => h z.symm)]
theorem up4 (hN : nt_ok nn L E) {R : Nat → Nat} : ∀ (n : Nat) (F : fx_F) (u l : Nat), Rn n k_Or_upEnds 4 [(2, 19), (0, u), (0, l)] [] F v F' → cn F nn L E → (∀ x, x < nn → F 22 x = R x) → l ≤ L → u < 2 ^ L → (∀ j, u.testBit j = true ↔ j < l ∧ abv R (E (2 * j + 1)) (E (2 * j))) → ∃ x, v = (0, x) ∧ F' = F ∧ x < 2 ^ L ∧ ∀ j, x.testBit j = true ↔ j < L ∧ abv R (E (2 * j + 1)) (E (2 * j)) := by
  intro n
  induction n using Nat.strongRecOn with
  | ind n ih =>
    intro F u l h hc hR hl hu hI
    have q := q_Or_upEnds_4 h
    have hL := hN.2.1
    have hn := hN.1
    rw [hc.2.1] at q
    rcases Nat.lt_or_ge l L with hlt | hlt
    · replace q := q.2 (by rw [b_lt (by omega) (by omega)]; exact hlt)
      obtain ⟨c1, c2⟩ := hc.2.2 (2 * l) (by omega)
      have nf2 : nf (2 * l) = 2 * l + 1 := by unfold nf; rw [if_pos (by omega)]
      rw [nf2] at c2
      have e1 := (hN.2.2 (2 * l) (by omega)).1
      have e2 := (hN.2.2 (2 * l + 1) (by omega)).1
      have p20 : 2 ^ L ≤ 2 ^ 20 := Nat.pow_le_pow_right (by decide) hL
      have pl : 2 ^ l < 2 ^ L := Nat.pow_lt_pow_right (by decide) hlt
      rw [b_mul (show 2 * l < 4294967296 by omega), c1, c2, hR _ e1, hR _ e2, b_add (show l + 1 < 4294967296 by omega), b_shl1 (show l < 32 by omega), b_or (k := L) (by omega) hu pl] at q
      have yes : abv R (E (2 * l + 1)) (E (2 * l)) → (∃ m, m < n ∧ Rn m k_Or_upEnds 4 [(2, 19), (0, u ||| 2 ^ l), (0, l + 1)] [] F v F') → ∃ x, v = (0, x) ∧ F' = F ∧ x < 2 ^ L ∧ ∀ j, x.testBit j = true ↔ j < L ∧ abv R (E (2 * j + 1)) (E (2 * j)) := by
        intro ha ⟨m, hm, hq⟩
        refine ih m hm F _ (l + 1) hq hc hR (by omega) (Nat.or_lt_two_pow hu pl) (fun j => ?_)
        rw [tb_or, Bool.or_eq_true, hI j, decide_eq_true_iff]
        constructor
        · rintro (⟨z, z2⟩ | z)
          · exact ⟨by omega, z2⟩
          · rw [z]; exact ⟨by omega, ha⟩
        · rintro ⟨z, z2⟩
          by_cases hz : j = l
          · exact Or.inr hz
          · exact Or.inl ⟨by omega, z2⟩
      have no : ¬ abv R (E (2 * l + 1)) (E (2 * l)) → (∃ m, m < n ∧ Rn m k_Or_upEnds 4 [(2, 19), (0, u), (0, l + 1)] [] F v F') → ∃ x, v = (0, x) ∧ F' = F ∧ x < 2 ^ L ∧ ∀ j, x.testBit j = true ↔ j < L ∧ abv R (E (2 * j + 1)) (E (2 * j)) := by
        intro ha ⟨m, hm, hq⟩
        refine ih m hm F _ (l + 1) hq hc hR (by omega) hu (fun j => ?_)
        rw [hI j]
        constructor
        · rintro ⟨z, z2⟩
          exact ⟨by omega, z2⟩
        · rintro ⟨z, z2⟩
          refine ⟨?_, z2⟩
          rcases Nat.lt_or_ge j l with z3 | z3
          · exact z3
          · have : j = l := by omega
            subst this
            exact absurd z2 ha
      have tri : ∀ a b, ¬ s_lt a b → s_le b a := by
        intro a b z
        rw [s_lt_eq] at z
        rw [s_le_eq]
        exact Nat.le_of_not_lt z
      by_cases h1 : s_lt (R (E (2 * l + 1))) (R (E (2 * l)))
      · exact yes (Or.inl h1) (q.1 h1)
      · replace q := q.2 (tri _ _ h1)
        by_cases h2 : R (E (2 * l + 1)) = R (E (2 * l))
        · replace q := q.2 h2
          rcases Nat.lt_or_ge (E (2 * l + 1)) (E (2 * l)) with h3 | h3
          · exact yes (Or.inr ⟨h2, h3⟩) (q.2 (by rw [b_lt (by omega) (by omega)]; exact h3))
          · refine no (fun z => ?_) (q.1 (by rw [b_le (by omega) (by omega)]; exact h3))
            rcases z with z | ⟨_, z⟩
            · exact h1 z
            · omega
        · refine no (fun z => ?_) (q.1 h2)
          rcases z with z | ⟨z, _⟩
          · exact h1 z
          · exact h2 z
    · obtain ⟨e1, e2⟩ := q.1 (by rw [b_le (by omega) (by omega)]; exact hlt)
      have : l = L := by omega
      subst this
      exact ⟨u, e1, e2, hu, hI⟩
/-- the up ends, as bits -/
theorem s_upEnds (hN : nt_ok nn L E) {R : Nat → Nat} {F : fx_F} (hc : cn F nn L E) (hR : ∀ x, x < nn → F 22 x = R x) (h : Cl k_Or_upEnds [(2, 19)] F v F') : ∃ x, v = (0, x) ∧ F' = F ∧ x < 2 ^ L ∧ ∀ j, x.testBit j = true ↔ j < L ∧ abv R (E (2 * j + 1)) (E (2 * j)) := by
  obtain ⟨n, h⟩ := c_Or_upEnds h
  obtain ⟨m, hm, hq⟩ := q_Or_upEnds_0 h
  exact up4 hN m F 0 0 hq hc hR (Nat.zero_le _) (Nat.two_pow_pos L) (fun j => by rw [Nat.zero_testBit]; exact ⟨fun z => (by cases z), fun z => absurd z.1 (Nat.not_lt_zero _)⟩)
end RATE
end
section
/-- the reference's net -/
def mn (F : fx_F) (n L : Nat) (E : Nat → Nat) : Prop := F 175 9 ≤ 1 ∧ F 177 (F 175 9) = n ∧ F 178 (F 175 9) = L ∧ ∀ j, j < 2 * L → F 183 (40 * F 175 9 + j) = E j
theorem mn.keep {F F' : fx_F} {n L : Nat} {E : Nat → Nat} (h : mn F n L E) {S : List Nat} (ho : fxo S F F') (h1 : 175 ∉ S) (h2 : 177 ∉ S) (h3 : 178 ∉ S) (h4 : 183 ∉ S) : mn F' n L E := by
  obtain ⟨a, b, c, d⟩ := h
  have e := ho 175 9 h1
  refine ⟨by rw [e]; exact a, by rw [e, ho 177 _ h2]; exact b, by rw [e, ho 178 _ h3]; exact c, fun j hj => by rw [e, ho 183 _ h4]; exact d j hj⟩
section MN
variable {F : fx_F} {n L : Nat} {E : Nat → Nat}
theorem mE {l w : Nat} (h : mn F n L E) (hL : L ≤ 20) (hl : l < L) (hw : w ≤ 1) : F 183 (i_add (i_add (i_mul 40 (F 175 9)) (i_mul 2 l)) w) = E (2 * l + w) := by
  obtain ⟨a, b, c, d⟩ := h
  rw [b_mul (by omega), b_mul (by omega), b_add (show 40 * F 175 9 + 2 * l < 4294967296 by omega), b_add (by omega), ← d (2 * l + w) (by omega)]
  rw [Nat.add_assoc]
theorem mE0 {l : Nat} (h : mn F n L E) (hL : L ≤ 20) (hl : l < L) : F 183 (i_add (i_add (i_mul 40 (F 175 9)) (i_mul 2 l)) 0) = E (2 * l) := mE h hL hl (Nat.zero_le 1)
theorem mTo {c : Nat} (h : mn F n L E) (hL : L ≤ 20) (hc : c < 2 * L) : F 183 (i_add (i_add (i_mul 40 (F 175 9)) (i_mul 2 (i_div c 2))) (i_sub 1 (i_rem c 2))) = E (nf c) := by
  rw [b_div (by omega) (by decide) (by decide), b_rem (by omega) (by decide) (by decide), b_sub (by omega) (by decide), mE h hL (by omega) (by omega)]
  congr 1
  unfold nf
  split <;> omega
theorem mFr {c : Nat} (h : mn F n L E) (hL : L ≤ 20) (hc : c < 2 * L) : F 183 (i_add (i_add (i_mul 40 (F 175 9)) (i_mul 2 (i_div c 2))) (i_rem c 2)) = E c := by
  rw [b_div (by omega) (by decide) (by decide), b_rem (by omega) (by decide) (by decide), mE h hL (by omega) (by omega)]
  congr 1
  omega
theorem b_add0 {l : Nat} (h : l < 4294967296) : i_add 0 l = l := by rw [b_add (by omega)]; omega
end MN
/-- links that stand, as the reference tells it; those of a switch left out -/
def mst (F : fx_F) (l : Nat) : Bool := Nat.beq (F 176 l) 1
def msw (F : fx_F) (E : Nat → Nat) (w l : Nat) : Bool := mst F l && (!(Nat.beq (E (2 * l)) w) && !(Nat.beq (E (2 * l + 1)) w))
theorem msw_on {F : fx_F} {E : Nat → Nat} {w l : Nat} : msw F E w l = true ↔ F 176 l = 1 ∧ E (2 * l) ≠ w ∧ E (2 * l + 1) ≠ w := by
  unfold msw mst
  rw [Bool.and_eq_true, Bool.and_eq_true]
  have nb : ∀ a b : Nat, (!(Nat.beq a b)) = true ↔ a ≠ b := fun a b => by
    cases h : Nat.beq a b with
    | true => exact ⟨fun z => (by cases z), fun z => absurd (rx_beq.mp h) z⟩
    | false => exact ⟨fun _ z => (by rw [z, Nat.beq_refl] at h; cases h), fun _ => rfl⟩
  rw [nb, nb]
  exact ⟨fun ⟨a, b⟩ => ⟨rx_beq.mp a, b⟩, fun ⟨a, b⟩ => ⟨rx_beq.mpr a, b⟩⟩
section MFAR
variable {nn L r w : Nat} {E : Nat → Nat} {st : Nat → Bool} {v : fx_V} {F' : fx_F}
noncomputable def mfI (nn L r : Nat) (E : Nat → Nat) (st : Nat → Bool) (k : Nat) (f : Nat → Nat) : Prop := (∀ u, u < nn → f u ≤ 10 ∧ (f u < 10 → wk L E st r (f u) u)) ∧ ∀ u d, u < nn → d ≤ k → wk L E st r d u → f u ≤ d
noncomputable def mfJ (L r : Nat) (E : Nat → Nat) (st : Nat → Bool) (k l : Nat) (f : Nat → Nat) : Prop := ∀ c d, c < 2 * l → c < 2 * L → st (c / 2) = true → d ≤ k → wk L E st r d (E c) → f (E (nf c)) ≤ d + 1
/-- a link is gone through both ways -/
def mrl (f : Nat → Nat) (x y u : Nat) : Nat := if u = y then (if f x + 1 < f y then f x + 1 else f y) else if u = x then (if (if f x + 1 < f y then f x + 1 else f y) + 1 < f x then (if f x + 1 < f y then f x + 1 else f y) + 1 else f x) else f u
theorem mrl_le {f : Nat → Nat} {x y u : Nat} : mrl f x y u ≤ f u := by
  unfold mrl
  by_cases h1 : u = y
  · rw [if_pos h1, h1]; split <;> omega
  · rw [if_neg h1]
    by_cases h2 : u = x
    · rw [if_pos h2, h2]; split <;> split <;> omega
    · rw [if_neg h2]; exact Nat.le_refl _
theorem mf_step (hN : nt_ok nn L E) {k l : Nat} {f : Nat → Nat} (hl : l < L) (hst : st l = true) (hI : mfI nn L r E st k f) (hJ : mfJ L r E st k l f) : mfI nn L r E st k (mrl f (E (2 * l)) (E (2 * l + 1))) ∧ mfJ L r E st k (l + 1) (mrl f (E (2 * l)) (E (2 * l + 1))) := by
  have n0 : nf (2 * l) = 2 * l + 1 := by unfold nf; rw [if_pos (by omega)]
  have n1 : nf (2 * l + 1) = 2 * l := by unfold nf; rw [if_neg (by omega)]; omega
  have hx := (hN.2.2 (2 * l) (by omega)).1
  have hne := (hN.2.2 (2 * l) (by omega)).2
  have hy := (hN.2.2 (2 * l + 1) (by omega)).1
  rw [n0] at hne
  obtain ⟨i1, i2⟩ := hI
  have wxy : ∀ d, wk L E st r d (E (2 * l)) → wk L E st r (d + 1) (E (2 * l + 1)) := fun d hw => ⟨2 * l, by omega, by rw [show 2 * l / 2 = l by omega]; exact hst, by rw [n0], hw⟩
  have wyx : ∀ d, wk L E st r d (E (2 * l + 1)) → wk L E st r (d + 1) (E (2 * l)) := fun d hw => ⟨2 * l + 1, by omega, by rw [show (2 * l + 1) / 2 = l by omega]; exact hst, by rw [n1], hw⟩
  generalize hX : E (2 * l) = x at *
  generalize hY : E (2 * l + 1) = y at *
  have ax := i1 x hx
  have ay := i1 y hy
  have ey : mrl f x y y = if f x + 1 < f y then f x + 1 else f y := by unfold mrl; rw [if_pos rfl]
  have ex : mrl f x y x = if (if f x + 1 < f y then f x + 1 else f y) + 1 < f x then (if f x + 1 < f y then f x + 1 else f y) + 1 else f x := by unfold mrl; rw [if_neg hne, if_pos rfl]
  refine ⟨⟨fun u hu => ?_, fun u d hu hd hw => Nat.le_trans mrl_le (i2 u d hu hd hw)⟩, fun c d hc hcL hs hd hw => ?_⟩
  · by_cases h1 : u = y
    · subst h1
      rw [ey]
      split
      · exact ⟨by omega, fun _ => wxy _ (ax.2 (by omega))⟩
      · exact ay
    · by_cases h2 : u = x
      · subst h2
        rw [ex]
        by_cases h3 : f u + 1 < f y
        · rw [if_pos h3, if_neg (by omega)]
          exact ax
        · rw [if_neg h3]
          by_cases h4 : f y + 1 < f u
          · rw [if_pos h4]
            exact ⟨by omega, fun _ => wyx _ (ay.2 (by omega))⟩
          · rw [if_neg h4]
            exact ax
      · have : mrl f x y u = f u := by unfold mrl; rw [if_neg h1, if_neg h2]
        rw [this]
        exact i1 u hu
  · rcases Nat.lt_or_ge c (2 * l) with z | z
    · exact Nat.le_trans mrl_le (hJ c d z hcL hs hd hw)
    · have : c = 2 * l ∨ c = 2 * l + 1 := by omega
      rcases this with e | e
      · subst e
        rw [hX] at hw
        rw [n0, hY, ey]
        have := i2 x d hx hd hw
        split <;> omega
      · subst e
        rw [hY] at hw
        rw [n1, hX, ex]
        have := i2 y d hy hd hw
        split <;> split <;> omega
theorem mf51 (hN : nt_ok nn L E) {k : Nat} (hk : k < nn) : ∀ (n : Nat) (F : fx_F) (l : Nat), Rn n k_M_layFar 51 [(2, 175), (3, 0), (0, w), (0, k), (0, l), (3, 0), (3, 0)] [] F v F' → mn F nn L E → (∀ l, l < L → st l = msw F E w l) → l ≤ L → mfI nn L r E st k (F 188) → mfJ L r E st k l (F 188) → ∃ m F1, m < n ∧ Rn m k_M_layFar 40 [(2, 175), (3, 0), (0, w), (0, k + 1), (3, 0), (3, 0), (3, 0)] [] F1 v F' ∧ fxo [188] F F1 ∧ mfI nn L r E st k (F1 188) ∧ mfJ L r E st k L (F1 188) := by
  intro n
  induction n using Nat.strongRecOn with
  | ind n ih =>
    intro F l h hm hst hl hI hJ
    have q := q_M_layFar_51 h
    have hL := hN.2.1
    have hn := hN.1
    rw [hm.2.2.1] at q
    rcases Nat.lt_or_ge l L with hlt | hlt
    · replace q := q.2 (by rw [b_lt (by omega) (by omega)]; exact hlt)
      have n0 : nf (2 * l) = 2 * l + 1 := by unfold nf; rw [if_pos (by omega)]
      have hx := (hN.2.2 (2 * l) (by omega)).1
      have hne := (hN.2.2 (2 * l) (by omega)).2
      have hy := (hN.2.2 (2 * l + 1) (by omega)).1
      rw [n0] at hne
      have fx := (hI.1 _ hx).1
      have fy := (hI.1 _ hy).1
      rw [mE0 hm hL hlt, mE hm hL hlt (Nat.le_refl 1), b_add0 (show l < 4294967296 by omega), b_add (show l + 1 < 4294967296 by omega)] at q
      have go : ∀ (F2 : fx_F), (∃ m, m < n ∧ Rn m k_M_layFar 51 [(2, 175), (3, 0), (0, w), (0, k), (0, l + 1), (3, 0), (3, 0)] [] F2 v F') → fxo [188] F F2 → mfI nn L r E st k (F2 188) → mfJ L r E st k (l + 1) (F2 188) → ∃ m F1, m < n ∧ Rn m k_M_layFar 40 [(2, 175), (3, 0), (0, w), (0, k + 1), (3, 0), (3, 0), (3, 0)] [] F1 v F' ∧ fxo [188] F F1 ∧ mfI nn L r E st k (F1 188) ∧ mfJ L r E st k L (F1 188) := by
        intro F2 ⟨m, hm2, hR⟩ ho h1 h2
        have e : ∀ j, F2 176 j = F 176 j := fun j => ho 176 j (by decide)
        obtain ⟨m', F1, r1, r2, r3, r4, r5⟩ := ih m hm2 F2 (l + 1) hR (hm.keep ho (by decide) (by decide) (by decide) (by decide)) (fun l hl => by rw [hst l hl]; unfold msw mst; rw [e]) (by omega) h1 h2
        exact ⟨m', F1, by omega, r2, ho.tr r3, r4, r5⟩
      have off : st l = false → mfJ L r E st k (l + 1) (F 188) := by
        intro hs c d hc hcL hs2 hd hw
        rcases Nat.lt_or_ge c (2 * l) with z | z
        · exact hJ c d z hcL hs2 hd hw
        · have : c / 2 = l := by omega
          rw [this, hs] at hs2
          cases hs2
      have hs0 := hst l hlt
      by_cases g0 : F 176 l = 1
      · replace q := q.2 g0
        by_cases g1 : E (2 * l) = w
        · refine go F (q.1 g1) fxo.rf hI (off ?_)
          rw [hs0]
          exact Bool.eq_false_iff.mpr (fun z => (msw_on.mp z).2.1 g1)
        · replace q := q.2 g1
          by_cases g2 : E (2 * l + 1) = w
          · refine go F (q.2 g2) fxo.rf hI (off ?_)
            rw [hs0]
            exact Bool.eq_false_iff.mpr (fun z => (msw_on.mp z).2.2 g2)
          · replace q := q.1 g2
            have hsl : st l = true := by rw [hs0]; exact msw_on.mpr ⟨g0, g1, g2⟩
            obtain ⟨s1, s2⟩ := mf_step hN hlt hsl hI hJ
            have fin : ∀ (F2 : fx_F), (∃ m, m < n ∧ Rn m k_M_layFar 51 [(2, 175), (3, 0), (0, w), (0, k), (0, l + 1), (3, 0), (3, 0)] [] F2 v F') → fxo [188] F F2 → (∀ u, F2 188 u = mrl (F 188) (E (2 * l)) (E (2 * l + 1)) u) → ∃ m F1, m < n ∧ Rn m k_M_layFar 40 [(2, 175), (3, 0), (0, w), (0, k + 1), (3, 0), (3, 0), (3, 0)] [] F1 v F' ∧ fxo [188] F F1 ∧ mfI nn L r E st k (F1 188) ∧ mfJ L r E st k L (F1 188) := by
              intro F2 hR ho he
              have : F2 188 = mrl (F 188) (E (2 * l)) (E (2 * l + 1)) := funext he
              exact go F2 hR ho (by rw [this]; exact s1) (by rw [this]; exact s2)
            rw [b_add (show F 188 (E (2 * l)) + 1 < 4294967296 by omega), b_add (show F 188 (E (2 * l + 1)) + 1 < 4294967296 by omega), fu_i hne, fu_same] at q
            by_cases g3 : F 188 (E (2 * l)) + 1 < F 188 (E (2 * l + 1))
            · replace q := q.2 (by rw [b_lt (by omega) (by omega)]; exact g3)
              rw [b_add (show F 188 (E (2 * l)) + 1 + 1 < 4294967296 by omega)] at q
              replace q := q.1 (by rw [b_le (by omega) (by omega)]; omega)
              refine fin _ q (fxo.rf.wr List.mem_cons_self) (fun u => ?_)
              unfold mrl
              by_cases hu : u = E (2 * l + 1)
              · rw [hu, fu_same, if_pos rfl, if_pos g3]
              · rw [fu_i hu, if_neg hu]
                by_cases hu2 : u = E (2 * l)
                · rw [if_pos hu2, if_pos g3, if_neg (by omega), hu2]
                · rw [if_neg hu2]
            · replace q := q.1 (by rw [b_le (by omega) (by omega)]; omega)
              by_cases g4 : F 188 (E (2 * l + 1)) + 1 < F 188 (E (2 * l))
              · replace q := q.2 (by rw [b_lt (by omega) (by omega)]; exact g4)
                refine fin _ q (fxo.rf.wr List.mem_cons_self) (fun u => ?_)
                unfold mrl
                by_cases hu : u = E (2 * l + 1)
                · rw [hu, fu_i (fun z => hne z.symm), if_pos rfl, if_neg g3]
                · rw [if_neg hu]
                  by_cases hu2 : u = E (2 * l)
                  · rw [if_pos hu2, if_neg g3, if_pos g4, hu2, fu_same]
                  · rw [if_neg hu2, fu_i hu2]
              · replace q := q.1 (by rw [b_le (by omega) (by omega)]; omega)
                refine fin _ q fxo.rf (fun u => ?_)
                unfold mrl
                by_cases hu : u = E (2 * l + 1)
                · rw [if_pos hu, if_neg g3, hu]
                · rw [if_neg hu]
                  by_cases hu2 : u = E (2 * l)
                  · rw [if_pos hu2, if_neg g3, if_neg g4, hu2]
                  · rw [if_neg hu2]
      · refine go F (q.1 g0) fxo.rf hI (off ?_)
        rw [hs0]
        exact Bool.eq_false_iff.mpr (fun z => g0 (msw_on.mp z).1)
    · obtain ⟨m, hm2, hR⟩ := q.1 (by rw [b_le (by omega) (by omega)]; exact hlt)
      rw [b_add (show k + 1 < 4294967296 by omega)] at hR
      have : l = L := by omega
      subst this
      exact ⟨m, F, hm2, hR, fxo.rf, hI, hJ⟩
theorem mf40 (hN : nt_ok nn L E) : ∀ (n : Nat) (F : fx_F) (k : Nat), Rn n k_M_layFar 40 [(2, 175), (3, 0), (0, w), (0, k), (3, 0), (3, 0), (3, 0)] [] F v F' → mn F nn L E → (∀ l, l < L → st l = msw F E w l) → k ≤ nn → mfI nn L r E st k (F 188) → fxo [188] F F' ∧ mfI nn L r E st nn (F' 188) := by
  intro n
  induction n using Nat.strongRecOn with
  | ind n ih =>
    intro F k h hm hst hk hI
    have q := q_M_layFar_40 h
    have hn := hN.1
    rw [hm.2.1] at q
    rcases Nat.lt_or_ge k nn with hlt | hlt
    · obtain ⟨m, hm2, hR⟩ := q.2 (by rw [b_lt (by omega) (by omega)]; exact hlt)
      obtain ⟨m', F1, r1, r2, r3, r4, r5⟩ := mf51 (r := r) (st := st) hN hlt m F 0 hR hm hst (Nat.zero_le _) hI (fun c d z => absurd z (by omega))
      have e : ∀ j, F1 176 j = F 176 j := fun j => r3 176 j (by decide)
      have hI2 : mfI nn L r E st (k + 1) (F1 188) := by
        refine ⟨r4.1, fun u d hu hd hw => ?_⟩
        rcases Nat.lt_or_ge k d with z | z
        · have : d = k + 1 := by omega
          subst this
          obtain ⟨c, c1, c2, c3, c4⟩ := hw
          have := r5 c k (by omega) c1 c2 (Nat.le_refl k) c4
          rw [c3] at this
          exact this
        · exact r4.2 u d hu z hw
      obtain ⟨s1, s2⟩ := ih m' (by omega) F1 (k + 1) r2 (hm.keep r3 (by decide) (by decide) (by decide) (by decide)) (fun l hl => by rw [hst l hl]; unfold msw mst; rw [e]) (by omega) hI2
      exact ⟨r3.tr s1, s2⟩
    · obtain ⟨-, e⟩ := q.1 (by rw [b_le (by omega) (by omega)]; exact hlt)
      subst e
      have : k = nn := by omega
      subst this
      exact ⟨fxo.rf, hI⟩
theorem mf2 (hN : nt_ok nn L E) (hr : r < nn ∨ nn = 0) (hr2 : r < 10) : ∀ (n : Nat) (F : fx_F) (i : Nat), Rn n k_M_layFar 2 [(2, 175), (0, r), (0, w), (0, i), (3, 0), (3, 0), (3, 0)] [] F v F' → mn F nn L E → (∀ l, l < L → st l = msw F E w l) → i ≤ 10 → (∀ u, u < i → F 188 u = 10) → fxo [188] F F' ∧ (r < nn → mfI nn L r E st nn (F' 188)) := by
  intro n
  induction n using Nat.strongRecOn with
  | ind n ih =>
    intro F i h hm hst hi hI
    have q := q_M_layFar_2 h
    have hn := hN.1
    rw [hm.2.1] at q
    rcases Nat.lt_or_ge i 10 with hlt | hlt
    · obtain ⟨m, hm2, hR⟩ := q.2 (by rw [b_lt (by omega) (by omega)]; exact hlt)
      rw [b_add (show i + 1 < 4294967296 by omega)] at hR
      have ho : fxo [188] F (fu F 188 i 10) := fxo.rf.wr List.mem_cons_self
      have e : ∀ j, fu F 188 i 10 176 j = F 176 j := fun j => ho 176 j (by decide)
      obtain ⟨r1, r2⟩ := ih m hm2 _ (i + 1) hR (hm.keep ho (by decide) (by decide) (by decide) (by decide)) (fun l hl => by rw [hst l hl]; unfold msw mst; rw [e]) (by omega) (fun u hu => by
        by_cases hz : u = i
        · rw [hz, fu_same]
        · rw [fu_i hz]; exact hI u (by omega))
      exact ⟨ho.tr r1, r2⟩
    · replace q := (q.1 (by rw [b_le (by omega) (by omega)]; exact hlt)).2 (by rw [b_le (by omega) (by omega)]; exact Nat.zero_le _)
      rcases hr with hr | hr
      · rw [b_sub (by omega) (by omega)] at q
        obtain ⟨m, hm2, hR⟩ := q.2 (by rw [b_le (by omega) (by omega)]; omega)
        have ho : fxo [188] F (fu F 188 r 0) := fxo.rf.wr List.mem_cons_self
        have e : ∀ j, fu F 188 r 0 176 j = F 176 j := fun j => ho 176 j (by decide)
        obtain ⟨r1, r2⟩ := mf40 (r := r) (st := st) hN m _ 0 hR (hm.keep ho (by decide) (by decide) (by decide) (by decide)) (fun l hl => by rw [hst l hl]; unfold msw mst; rw [e]) (Nat.zero_le _) (by
          have e1 : ∀ u, u < nn → fu F 188 r 0 188 u = if u = r then 0 else 10 := by
            intro u hu
            by_cases hz : u = r
            · rw [if_pos hz, hz, fu_same]
            · rw [if_neg hz, fu_i hz]; exact hI u (by omega)
          refine ⟨fun u hu => ?_, fun u d hu hd hw => ?_⟩
          · rw [e1 u hu]
            by_cases hz : u = r
            · rw [if_pos hz]; exact ⟨by omega, fun _ => hz⟩
            · rw [if_neg hz]; exact ⟨Nat.le_refl _, fun z => absurd z (by omega)⟩
          · have hd0 : d = 0 := by omega
            subst hd0
            rw [e1 u hu, if_pos (show u = r from hw)]
            exact Nat.le_refl 0)
        exact ⟨ho.tr r1, fun _ => r2⟩
      · rw [hr, b_sub01] at q
        obtain ⟨-, e⟩ := q.1 (by rw [b_lt_m (by omega)]; trivial)
        subst e
        exact ⟨fxo.rf, fun z => absurd z (by omega)⟩
/-- how far all are from one -/
theorem s_layFar (hN : nt_ok nn L E) (hr : r < nn ∨ nn = 0) (hr2 : r < 10) {F : fx_F} (hm : mn F nn L E) (hst : ∀ l, l < L → st l = msw F E w l) (h : Cl k_M_layFar [(2, 175), (0, r), (0, w)] F v F') : fxo [188] F F' ∧ ∀ u, u < nn → F' 188 u = fr L E st r u := by
  obtain ⟨n, h⟩ := c_M_layFar h
  obtain ⟨m, hm2, hR⟩ := q_M_layFar_0 h
  obtain ⟨r1, r2⟩ := mf2 hN hr hr2 m F 0 hR hm hst (Nat.zero_le _) (fun u hu => absurd hu (Nat.not_lt_zero _))
  refine ⟨r1, fun u hu => ?_⟩
  have hrn : r < nn := by rcases hr with z | z; exact z; omega
  obtain ⟨i1, i2⟩ := r2 hrn
  obtain ⟨a1, a2⟩ := i1 u hu
  have hn := hN.1
  by_cases hx : ∃ d, ds L E st r d u
  · obtain ⟨d, hd⟩ := hx
    rw [fr_ds hd]
    have l1 := ds_lt hrn (fun j hj => (hN.2.2 j hj).1) hd
    have l2 := i2 u d hu (by omega) hd.1
    rcases Nat.lt_or_ge (F' 188 u) d with z | z
    · exact absurd (a2 (by omega)) (hd.2 _ z)
    · omega
  · rw [fr_no (fun d hd => hx ⟨d, hd⟩)]
    rcases Nat.lt_or_ge (F' 188 u) 10 with z | z
    · exact absurd (a2 z) (wk_none (fun d hd => hx ⟨d, hd⟩) _)
    · omega
end MFAR
end
section
/-- the reference's code -/
def mcc (F : fx_F) (C : Nat → Nat) (N : Nat) : Prop := F 182 (F 175 9) = N ∧ ∀ k, k < N → F 184 (100 * F 175 9 + k) = C k
theorem mcc.keep {F F' : fx_F} {C : Nat → Nat} {N : Nat} (h : mcc F C N) {S : List Nat} (ho : fxo S F F') (h1 : 175 ∉ S) (h2 : 182 ∉ S) (h3 : 184 ∉ S) : mcc F' C N := by
  have e := ho 175 9 h1
  exact ⟨by rw [e, ho 182 _ h2]; exact h.1, fun k hk => by rw [e, ho 184 _ h3]; exact h.2 k hk⟩
section MRK
variable {nn L r : Nat} {E : Nat → Nat} {st : Nat → Bool} {v : fx_V} {F' : fx_F} {C : Nat → Nat} {N : Nat}
/-- how many links of a switch stand -/
noncomputable def lko (E : Nat → Nat) (st : Nat → Bool) (u k : Nat) : Nat := cnt (fun l => st l && (Nat.beq (E (2 * l)) u || Nat.beq (E (2 * l + 1)) u)) k
theorem lko_dgc (hN : nt_ok nn L E) {u : Nat} : ∀ l, l ≤ L → dgc E st u (2 * l) = lko E st u l
  | 0, _ => rfl
  | l + 1, hl => by
    have ih := lko_dgc hN (u := u) l (by omega)
    have hne := (hN.2.2 (2 * l) (by omega)).2
    have n0 : nf (2 * l) = 2 * l + 1 := by unfold nf; rw [if_pos (by omega)]
    rw [n0] at hne
    show dgc E st u (2 * l) + (if (st ((2 * l) / 2) && Nat.beq (E (2 * l)) u) then 1 else 0) + (if (st ((2 * l + 1) / 2) && Nat.beq (E (2 * l + 1)) u) then 1 else 0) = lko E st u l + (if (st l && (Nat.beq (E (2 * l)) u || Nat.beq (E (2 * l + 1)) u)) then 1 else 0)
    rw [ih, show 2 * l / 2 = l by omega, show (2 * l + 1) / 2 = l by omega]
    cases st l with
    | false => rfl
    | true =>
      cases h1 : Nat.beq (E (2 * l)) u with
      | false => cases h2 : Nat.beq (E (2 * l + 1)) u <;> rfl
      | true =>
        cases h2 : Nat.beq (E (2 * l + 1)) u with
        | false => rfl
        | true => exact absurd ((rx_beq.mp h1).trans (rx_beq.mp h2).symm) hne
theorem s_linksOf {u : Nat} (hN : nt_ok nn L E) {F : fx_F} (hm : mn F nn L E) (hst : ∀ l, l < L → st l = mst F l) (h : Cl k_M_linksOf [(2, 175), (0, u)] F v F') : v = (0, dgc E st u (2 * L)) ∧ F' = F := by
  obtain ⟨n, h⟩ := c_M_linksOf h
  obtain ⟨m, hm2, hR⟩ := q_M_linksOf_0 h
  have hL := hN.2.1
  rw [lko_dgc hN L (Nat.le_refl L)]
  have lp : ∀ (n : Nat) (l x : Nat), Rn n k_M_linksOf 4 [(2, 175), (0, u), (0, x), (0, l)] [] F v F' → l ≤ L → x = lko E st u l → v = (0, lko E st u L) ∧ F' = F := by
    intro n
    induction n using Nat.strongRecOn with
    | ind n ih =>
      intro l x h hl hx
      have q := q_M_linksOf_4 h
      rw [hm.2.2.1] at q
      have hxl : x ≤ l := by rw [hx]; exact cnt_le _ l
      rcases Nat.lt_or_ge l L with hlt | hlt
      · replace q := q.2 (by rw [b_lt (by omega) (by omega)]; exact hlt)
        rw [mE0 hm hL hlt, mE hm hL hlt (Nat.le_refl 1), b_add0 (show l < 4294967296 by omega), b_add (show l + 1 < 4294967296 by omega), b_add (show x + 0 < 4294967296 by omega), b_add (show x + 1 < 4294967296 by omega)] at q
        have hs0 := hst l hlt
        have sx : ∀ b : Bool, (st l && (Nat.beq (E (2 * l)) u || Nat.beq (E (2 * l + 1)) u)) = b → lko E st u (l + 1) = lko E st u l + if b then 1 else 0 := fun b hb => by
          show lko E st u l + (if (st l && (Nat.beq (E (2 * l)) u || Nat.beq (E (2 * l + 1)) u)) then 1 else 0) = _
          rw [hb]
        by_cases g0 : F 176 l = 1
        · replace q := q.2 g0
          have hs : st l = true := by rw [hs0]; exact rx_beq.mpr g0
          by_cases g1 : E (2 * l) = u
          · obtain ⟨m, hm2, hR⟩ := q.1 g1
            refine ih m hm2 (l + 1) (x + 1) hR (by omega) ?_
            rw [sx true (by rw [hs, rx_beq.mpr g1]; rfl), hx]
            rfl
          · replace q := q.2 g1
            have b1 : Nat.beq (E (2 * l)) u = false := Bool.eq_false_iff.mpr (fun z => g1 (rx_beq.mp z))
            by_cases g2 : E (2 * l + 1) = u
            · obtain ⟨m, hm2, hR⟩ := q.2 g2
              refine ih m hm2 (l + 1) (x + 1) hR (by omega) ?_
              rw [sx true (by rw [hs, b1, rx_beq.mpr g2]; rfl), hx]
              rfl
            · obtain ⟨m, hm2, hR⟩ := q.1 g2
              refine ih m hm2 (l + 1) (x + 0) hR (by omega) ?_
              rw [sx false (by rw [hs, b1, show Nat.beq (E (2 * l + 1)) u = false from Bool.eq_false_iff.mpr (fun z => g2 (rx_beq.mp z))]; rfl), hx]
              rfl
        · obtain ⟨m, hm2, hR⟩ := q.1 g0
          refine ih m hm2 (l + 1) (x + 0) hR (by omega) ?_
          have hs : st l = false := by rw [hs0]; exact Bool.eq_false_iff.mpr (fun z => g0 (rx_beq.mp z))
          rw [sx false (by rw [hs]; rfl), hx]
          rfl
      · obtain ⟨e1, e2⟩ := q.1 (by rw [b_le (by omega) (by omega)]; exact hlt)
        have : l = L := by omega
        subst this
        rw [hx] at e1
        exact ⟨e1, e2⟩
  exact lp m 0 0 hR (Nat.zero_le _) rfl
theorem mr23 {u fa dg : Nat} (hN : nt_ok nn L E) (hC : cd_ok C N) (hu : u < 10) (hdg : dg = dgc E st u (2 * L)) : ∀ (n : Nat) (F : fx_F) (k : Nat), Rn n k_M_rankOf 23 [(2, 175), (0, u), (0, hgt C k), (0, k), (3, 0)] [] F v F' → mn F nn L E → mcc F C N → (∀ l, l < L → st l = mst F l) → F 188 u = fa → k ≤ N → stk (F 191) (evk fa u dg C k) → ∃ x, v = (0, x) ∧ fxo [191] F F' ∧ (0 < hgt C N → x = (evk fa u dg C N).2 0) := by
  intro n
  induction n using Nat.strongRecOn with
  | ind n ih =>
    intro F k h hm hc hst hfa hk hI
    have q := q_M_rankOf_23 h
    have hN2 := hC.1
    have hle := hgt_le C k
    have hb1 := hm.1
    rw [hc.1] at q
    rcases Nat.lt_or_ge k N with hl | hl
    · replace q := q.2 (by rw [b_lt (by omega) (by omega)]; exact hl)
      obtain ⟨o1, o2, o3, o4⟩ := hC.2 k hl
      rw [b_mul (show 100 * F 175 9 < 4294967296 by omega), b_add (show 100 * F 175 9 + k < 4294967296 by omega), hc.2 k hl, b_add (show k + 1 < 4294967296 by omega)] at q
      have go : ∀ (F2 : fx_F), (∃ m, m < n ∧ Rn m k_M_rankOf 23 [(2, 175), (0, u), (0, hgt C (k + 1)), (0, k + 1), (3, 0)] [] F2 v F') → fxo [191] F F2 → stk (F2 191) (evk fa u dg C (k + 1)) → ∃ x, v = (0, x) ∧ fxo [191] F F' ∧ (0 < hgt C N → x = (evk fa u dg C N).2 0) := by
        intro F2 ⟨m, hm2, hR⟩ ho hS
        have e : ∀ q i, q ≠ 191 → F2 q i = F q i := fun q i hq => ho q i (fun z => hq (List.mem_singleton.mp z))
        obtain ⟨x, r1, r2, r3⟩ := ih m hm2 F2 (k + 1) hR (hm.keep ho (by decide) (by decide) (by decide) (by decide)) (hc.keep ho (by decide) (by decide) (by decide)) (fun l hl => by rw [hst l hl]; unfold mst; rw [e 176 _ (by decide)]) ((e 188 u (by decide)).trans hfa) (by omega) hS
        exact ⟨x, r1, ho.tr r2, r3⟩
      have hw : ∀ j x, fxo [191] F (fu F 191 j x) := fun j x => fxo.rf.wr List.mem_cons_self
      have hh := evk_h fa u dg C k
      have hst2 : ∀ j, j < hgt C k → F 191 j = (evk fa u dg C k).2 j := fun j hj => hI j (by rw [hh]; exact hj)
      by_cases hm8 : C k = 1008
      · have h1 := o2 hm8
        have e1 : hgt C (k + 1) = hgt C k := by show (if C k = 1008 then hgt C k else _) = _; rw [if_pos hm8]
        have e2 : evk fa u dg C (k + 1) = ((evk fa u dg C k).1, fun j => if j = (evk fa u dg C k).1 - 1 then i_neg ((evk fa u dg C k).2 ((evk fa u dg C k).1 - 1)) else (evk fa u dg C k).2 j) := by
          show ev1 fa u dg (C k) (evk fa u dg C k) = _
          unfold ev1
          rw [if_pos hm8]
        replace q := (q.2 (by rw [hm8, b_lt (by decide) (by decide)]; decide)).2 hm8
        rw [b_sub h1 (by omega)] at q
        refine go _ (by rw [e1]; exact q) (hw _ _) ?_
        rw [e2, hh]
        intro j hj
        show fu F 191 (hgt C k - 1) _ 191 j = if j = hgt C k - 1 then _ else _
        by_cases hz : j = hgt C k - 1
        · rw [if_pos hz, hz, fu_same, hst2 _ (by omega)]
        · rw [if_neg hz, fu_i hz]
          exact hst2 j hj
      · by_cases hb3 : 1003 ≤ C k
        · have h2 := o3 hb3 hm8
          have e1 : hgt C (k + 1) = hgt C k - 1 := by show (if C k = 1008 then hgt C k else if 1003 ≤ C k then hgt C k - 1 else _) = _; rw [if_neg hm8, if_pos hb3]
          have e2 : evk fa u dg C (k + 1) = ((evk fa u dg C k).1 - 1, fun j => if j = (evk fa u dg C k).1 - 2 then wop (C k) ((evk fa u dg C k).2 ((evk fa u dg C k).1 - 2)) ((evk fa u dg C k).2 ((evk fa u dg C k).1 - 1)) else (evk fa u dg C k).2 j) := by
            show ev1 fa u dg (C k) (evk fa u dg C k) = _
            unfold ev1
            rw [if_neg hm8, if_pos hb3]
          have hx := hst2 (hgt C k - 2) (by omega)
          have hy := hst2 (hgt C k - 1) (by omega)
          have hi1 : i_add (hgt C k) 4294967295 = hgt C k - 1 := b_dec (by omega) (by omega)
          have hi2 : i_sub (hgt C k - 1) 1 = hgt C k - 2 := by rw [b_sub (by omega) (by omega)]; omega
          have fin : ∀ F2, F2 = fu F 191 (hgt C k - 2) (wop (C k) (F 191 (hgt C k - 2)) (F 191 (hgt C k - 1))) → (∃ m, m < n ∧ Rn m k_M_rankOf 23 [(2, 175), (0, u), (0, hgt C k - 1), (0, k + 1), (3, 0)] [] F2 v F') → ∃ x, v = (0, x) ∧ fxo [191] F F' ∧ (0 < hgt C N → x = (evk fa u dg C N).2 0) := by
            intro F2 eF q
            subst eF
            refine go _ (by rw [e1]; exact q) (hw _ _) ?_
            rw [e2, hh]
            intro j hj
            replace hj : j < hgt C k - 1 := hj
            show fu F 191 (hgt C k - 2) _ 191 j = if j = hgt C k - 2 then _ else _
            by_cases hz : j = hgt C k - 2
            · rw [if_pos hz, hz, fu_same, hx, hy]
            · rw [if_neg hz, fu_i hz]
              exact hst2 j (by omega)
          have hcs : C k = 1003 ∨ C k = 1004 ∨ C k = 1005 ∨ C k = 1006 ∨ C k = 1007 := by clear q; omega
          rw [hi1, hi2] at q
          replace q := (q.2 (by rw [b_lt (by decide) (by clear q; omega)]; clear q; omega)).1 hm8
          rcases hcs with e | e | e | e | e <;> rw [e] at q fin <;> unfold wop at fin
          · exact fin _ (by rw [if_pos rfl]) (q.2.1 rfl)
          · exact fin _ (by rw [if_neg (by decide), if_pos rfl]) (q.2.2.1 rfl)
          · exact fin _ (by rw [if_neg (by decide), if_neg (by decide), if_pos rfl]) (q.2.2.2.1 rfl)
          · replace q := q.2.2.2.2.1 rfl
            by_cases hy0 : F 191 (hgt C k - 1) = 0
            · exact fin _ (by rw [if_neg (by decide), if_neg (by decide), if_neg (by decide), if_pos rfl, if_pos hy0]) (q.2 hy0)
            · exact fin _ (by rw [if_neg (by decide), if_neg (by decide), if_neg (by decide), if_pos rfl, if_neg hy0]) (q.1 hy0)
          · replace q := q.1 (Or.inr (by decide))
            by_cases hy0 : F 191 (hgt C k - 1) = 0
            · exact fin _ (by rw [if_neg (by decide), if_neg (by decide), if_neg (by decide), if_neg (by decide), if_pos hy0]) (q.2 hy0)
            · exact fin _ (by rw [if_neg (by decide), if_neg (by decide), if_neg (by decide), if_neg (by decide), if_neg hy0]) (q.1 hy0)
        · have e1 : hgt C (k + 1) = hgt C k + 1 := by show (if C k = 1008 then hgt C k else if 1003 ≤ C k then hgt C k - 1 else hgt C k + 1) = _; rw [if_neg hm8, if_neg hb3]
          have e2 : evk fa u dg C (k + 1) = ((evk fa u dg C k).1 + 1, fun j => if j = (evk fa u dg C k).1 then (if C k = 1000 then fa else if C k = 1001 then u else if C k = 1002 then dg else C k) else (evk fa u dg C k).2 j) := by
            show ev1 fa u dg (C k) (evk fa u dg C k) = _
            unfold ev1
            rw [if_neg hm8, if_neg hb3]
          rw [hfa, b_add (show hgt C k + 1 < 4294967296 by omega)] at q
          replace q := q.1 (by rw [b_le (by clear q; omega) (by decide)]; clear q; omega)
          have fin : ∀ x, x = (if C k = 1000 then fa else if C k = 1001 then u else if C k = 1002 then dg else C k) → (∃ m, m < n ∧ Rn m k_M_rankOf 23 [(2, 175), (0, u), (0, hgt C k + 1), (0, k + 1), (3, 0)] [] (fu F 191 (hgt C k) x) v F') → ∃ x, v = (0, x) ∧ fxo [191] F F' ∧ (0 < hgt C N → x = (evk fa u dg C N).2 0) := by
            intro x ex q
            refine go _ (by rw [e1]; exact q) (hw _ _) ?_
            rw [e2, hh]
            intro j hj
            replace hj : j < hgt C k + 1 := hj
            show fu F 191 (hgt C k) _ 191 j = if j = hgt C k then _ else _
            by_cases hz : j = hgt C k
            · rw [if_pos hz, hz, fu_same, ex]
            · rw [if_neg hz, fu_i hz]
              exact hst2 j (by omega)
          by_cases z0 : C k = 1000
          · exact fin _ (by rw [if_pos z0]) (q.2 z0)
          replace q := q.1 z0
          by_cases z1 : C k = 1001
          · exact fin _ (by rw [if_neg z0, if_pos z1]) (q.2 z1)
          replace q := q.1 z1
          by_cases z2 : C k = 1002
          · obtain ⟨n1, F1, c1, q⟩ := q.2 z2
            obtain ⟨a1, a2⟩ := s_linksOf (st := st) hN hm hst c1
            cases a1
            rw [a2] at q
            exact fin _ (by rw [if_neg z0, if_neg z1, if_pos z2, hdg]) q
          · exact fin _ (by rw [if_neg z0, if_neg z1, if_neg z2]) (q.1 z2)
    · obtain ⟨e1, e2⟩ := q.1 (by rw [b_le (by omega) (by omega)]; exact hl)
      subst e2
      have : k = N := by omega
      subst this
      exact ⟨_, e1, fxo.rf, fun hz => hI 0 (by rw [evk_h]; exact hz)⟩
theorem s_rankOf {u : Nat} {fa : Nat → Nat} (hN : nt_ok nn L E) (hC : cd_ok C N) (hC2 : N ≠ 0 → 0 < hgt C N) (hu : u < 10) {F : fx_F} (hm : mn F nn L E) (hc : mcc F C N) (hst : ∀ l, l < L → st l = mst F l) (hfa : F 188 u = fa u) (h : Cl k_M_rankOf [(2, 175), (0, u)] F v F') : v = (0, rk C N fa (fun u => dgc E st u (2 * L)) u) ∧ fxo [191] F F' := by
  obtain ⟨n, h⟩ := c_M_rankOf h
  have q := q_M_rankOf_0 h
  rw [hc.1] at q
  unfold rk
  by_cases h0 : N = 0
  · obtain ⟨e1, e2⟩ := q.2 h0
    subst e2
    rw [if_pos h0, ← hfa]
    exact ⟨e1, fxo.rf⟩
  · obtain ⟨m, hm2, hR⟩ := q.1 h0
    obtain ⟨x, r1, r2, r3⟩ := mr23 (st := st) (fa := fa u) hN hC hu rfl m F 0 hR hm hc hst hfa (Nat.zero_le _) (fun j hj => absurd hj (Nat.not_lt_zero _))
    rw [if_neg h0, ← r3 (hC2 h0)]
    exact ⟨r1, r2⟩
theorem s_layRanks (hN : nt_ok nn L E) (hC : cd_ok C N) (hC2 : N ≠ 0 → 0 < hgt C N) (hr : r < nn ∨ nn = 0) (hr2 : r < 10) {F : fx_F} (hm : mn F nn L E) (hc : mcc F C N) (hst : ∀ l, l < L → st l = mst F l) (h : Cl k_M_layRanks [(2, 175), (0, r)] F v F') : fxo [188, 189, 191] F F' ∧ ∀ u, u < nn → F' 188 u = fr L E st r u ∧ F' 189 u = rk C N (fr L E st r) (fun u => dgc E st u (2 * L)) u := by
  obtain ⟨n, h⟩ := c_M_layRanks h
  obtain ⟨F1, c1, m, hm2, hR⟩ := q_M_layRanks_0 h
  have hn := hN.1
  have hsw : ∀ l, l < L → st l = msw F E 4294967295 l := by
    intro l hl
    rw [hst l hl]
    unfold msw
    have e1 := (hN.2.2 (2 * l) (by omega)).1
    have e2 := (hN.2.2 (2 * l + 1) (by omega)).1
    rw [show Nat.beq (E (2 * l)) 4294967295 = false from Bool.eq_false_iff.mpr (fun z => by have := rx_beq.mp z; omega), show Nat.beq (E (2 * l + 1)) 4294967295 = false from Bool.eq_false_iff.mpr (fun z => by have := rx_beq.mp z; omega)]
    cases mst F l <;> rfl
  obtain ⟨a1, a2⟩ := s_layFar hN hr hr2 hm hsw c1
  have lp : ∀ (n : Nat) (F : fx_F) (i : Nat), Rn n k_M_layRanks 8 [(2, 175), (3, 0), (0, i)] [] F v F' → mn F nn L E → mcc F C N → (∀ l, l < L → st l = mst F l) → (∀ u, u < nn → F 188 u = fr L E st r u) → i ≤ nn → (∀ u, u < i → F 189 u = rk C N (fr L E st r) (fun u => dgc E st u (2 * L)) u) → fxo [189, 191] F F' ∧ ∀ u, u < nn → F' 188 u = fr L E st r u ∧ F' 189 u = rk C N (fr L E st r) (fun u => dgc E st u (2 * L)) u := by
    intro n
    induction n using Nat.strongRecOn with
    | ind n ih =>
      intro F i h hm hc hst hfa hi hI
      have q := q_M_layRanks_8 h
      rw [hm.2.1] at q
      rcases Nat.lt_or_ge i nn with hlt | hlt
      · obtain ⟨n1, F2, c2, m, hm2, hR⟩ := q.2 (by rw [b_lt (by omega) (by omega)]; exact hlt)
        rw [b_add (show i + 1 < 4294967296 by omega)] at hR
        obtain ⟨x1, x2⟩ := s_rankOf (fa := fr L E st r) hN hC hC2 (by omega) hm hc hst (hfa i hlt) c2
        cases x1
        have ho : fxo [189, 191] F (fu F2 189 i (rk C N (fr L E st r) (fun u => dgc E st u (2 * L)) i)) := (x2.mono (by decide)).wr (by decide)
        have e : ∀ q j, q ∉ [189, 191] → (fu F2 189 i (rk C N (fr L E st r) (fun u => dgc E st u (2 * L)) i)) q j = F q j := ho
        obtain ⟨r1, r2⟩ := ih m hm2 _ (i + 1) hR (hm.keep ho (by decide) (by decide) (by decide) (by decide)) (hc.keep ho (by decide) (by decide) (by decide)) (fun l hl => by rw [hst l hl]; unfold mst; rw [e 176 _ (by decide)]) (fun u hu => (e 188 u (by decide)).trans (hfa u hu)) (by omega) (fun u hu => by
          by_cases hz : u = i
          · rw [hz, fu_same]
          · rw [fu_i hz, x2 189 u (by decide)]
            exact hI u (by omega))
        exact ⟨ho.tr r1, r2⟩
      · obtain ⟨-, e⟩ := q.1 (by rw [b_le (by omega) (by omega)]; exact hlt)
        subst e
        exact ⟨fxo.rf, fun u hu => ⟨hfa u hu, hI u (by omega)⟩⟩
  have e : ∀ q j, q ∉ [188] → F1 q j = F q j := a1
  obtain ⟨r1, r2⟩ := lp m F1 0 hR (hm.keep a1 (by decide) (by decide) (by decide) (by decide)) (hc.keep a1 (by decide) (by decide) (by decide)) (fun l hl => by rw [hst l hl]; unfold mst; rw [e 176 _ (by decide)]) a2 (Nat.zero_le _) (fun u hu => absurd hu (Nat.not_lt_zero _))
  exact ⟨(a1.mono (by decide)).tr (r1.mono (by decide)), r2⟩
/-- the up end of link l, were all oriented by ranks -/
noncomputable def uend (E : Nat → Nat) (R : Nat → Nat) (l : Nat) : Nat := @ite Nat (abv R (E (2 * l + 1)) (E (2 * l))) (Classical.propDecidable _) (E (2 * l + 1)) (E (2 * l))
theorem abv_tri {R : Nat → Nat} {x y : Nat} (hR : R x < 4294967296) (hR2 : R y < 4294967296) (hne : x ≠ y) : abv R x y ↔ ¬ abv R y x := by
  unfold abv
  rw [s_lt_eq, s_lt_eq]
  have inj : rx_bi (R x) = rx_bi (R y) ↔ R x = R y := ⟨fun z => fx_bi_inj hR hR2 z, fun z => by rw [z]⟩
  generalize rx_bi (R x) = a at *
  generalize rx_bi (R y) = b at *
  generalize R x = c at *
  generalize R y = d at *
  by_cases h : c = d
  · have := inj.mpr h
    subst h
    subst this
    omega
  · have : a ≠ b := fun z => h (inj.mp z)
    omega
theorem i_lt32 : (∀ x y, i_add x y < 4294967296) ∧ (∀ x y, i_sub x y < 4294967296) ∧ (∀ x y, i_mul x y < 4294967296) ∧ (∀ x y, i_div x y < 4294967296) ∧ (∀ x y, i_rem x y < 4294967296) ∧ ∀ x, i_neg x < 4294967296 :=
  ⟨fun x y => by rw [i_add_eq]; exact Nat.mod_lt _ (by decide), fun x y => by rw [i_sub_eq]; exact Nat.mod_lt _ (by decide), fun x y => by rw [i_mul_eq]; exact Nat.mod_lt _ (by decide), fun x y => by rw [i_div_eq]; exact ax_i32_lt _, fun x y => by rw [i_rem_eq]; exact ax_i32_lt _, fun x => by rw [i_neg_eq]; exact ax_i32_lt _⟩
theorem wop_lt (c x y : Nat) : wop c x y < 4294967296 := by
  obtain ⟨h1, h2, h3, h4, h5, h6⟩ := i_lt32
  unfold wop
  split
  · exact h1 _ _
  · split
    · exact h2 _ _
    · split
      · exact h3 _ _
      · split
        · split
          · decide
          · exact h4 _ _
        · split
          · decide
          · exact h5 _ _
theorem evk_lt {fa u dg : Nat} (h1 : fa < 4294967296) (h2 : u < 4294967296) (h3 : dg < 4294967296) (hC : cd_ok C N) : ∀ k, k ≤ N → ∀ j, (evk fa u dg C k).2 j < 4294967296
  | 0, _, j => by show 0 < 4294967296; decide
  | k + 1, hk, j => by
    have ih := evk_lt h1 h2 h3 hC k (by omega)
    have hc := (hC.2 k (by omega)).1
    show (ev1 fa u dg (C k) (evk fa u dg C k)).2 j < 4294967296
    unfold ev1
    split
    · show (if j = _ then _ else _) < _
      split
      · exact i_lt32.2.2.2.2.2 _
      · exact ih j
    · split
      · show (if j = _ then _ else _) < _
        split
        · exact wop_lt _ _ _
        · exact ih j
      · show (if j = _ then (if C k = 1000 then fa else if C k = 1001 then u else if C k = 1002 then dg else C k) else _) < _
        split
        · split
          · exact h1
          · split
            · exact h2
            · split
              · exact h3
              · omega
        · exact ih j
theorem rk_lt {fa dg : Nat → Nat} {u : Nat} (h1 : fa u < 4294967296) (h2 : u < 4294967296) (h3 : dg u < 4294967296) (hC : cd_ok C N) : rk C N fa dg u < 4294967296 := by
  unfold rk
  split
  · exact h1
  · exact evk_lt h1 h2 h3 hC N (Nat.le_refl N) 0
/-- up ends by a root -/
theorem s_orientBy (hN : nt_ok nn L E) (hC : cd_ok C N) (hC2 : N ≠ 0 → 0 < hgt C N) (hr : r < nn ∨ nn = 0) (hr2 : r < 10) {F : fx_F} (hm : mn F nn L E) (hc : mcc F C N) (hst : ∀ l, l < L → st l = mst F l) (h : Cl k_M_orientBy [(2, 175), (0, r)] F v F') : fxo [188, 189, 190, 191] F F' ∧ (∀ l, l < L → F' 190 l = uend E (rk C N (fr L E st r) (fun u => dgc E st u (2 * L))) l) ∧ ∀ l, L ≤ l → F' 190 l = F 190 l := by
  obtain ⟨n, h⟩ := c_M_orientBy h
  obtain ⟨F1, c1, m, hm2, hR⟩ := q_M_orientBy_0 h
  obtain ⟨a1, a2⟩ := s_layRanks hN hC hC2 hr hr2 hm hc hst c1
  have hL := hN.2.1
  have hn := hN.1
  have hrk : ∀ u, u < nn → rk C N (fr L E st r) (fun u => dgc E st u (2 * L)) u < 4294967296 := by
    intro u hu
    refine rk_lt ?_ (by omega) ?_ hC
    · have : fr L E st r u ≤ 10 := by
        rcases hr with hr | hr
        · exact fr_le hN hr
        · omega
      omega
    · have : dgc E st u (2 * L) ≤ 2 * L := cnt_le _ _
      omega
  generalize hRR : rk C N (fr L E st r) (fun u => dgc E st u (2 * L)) = R at *
  have lp : ∀ (n : Nat) (F : fx_F) (l : Nat), Rn n k_M_orientBy 7 [(2, 175), (3, 0), (0, l)] [] F v F' → mn F nn L E → (∀ u, u < nn → F 189 u = R u) → l ≤ L → (∀ j, j < l → F 190 j = uend E R j) → fxo [190] F F' ∧ (∀ l, l < L → F' 190 l = uend E R l) ∧ ∀ l, L ≤ l → F' 190 l = F 190 l := by
    intro n
    induction n using Nat.strongRecOn with
    | ind n ih =>
      intro F l h hm hR hl hI
      have q := q_M_orientBy_7 h
      rw [hm.2.2.1] at q
      rcases Nat.lt_or_ge l L with hlt | hlt
      · replace q := q.2 (by rw [b_lt (by omega) (by omega)]; exact hlt)
        have e1 := (hN.2.2 (2 * l) (by omega)).1
        have hne := (hN.2.2 (2 * l) (by omega)).2
        have e2 := (hN.2.2 (2 * l + 1) (by omega)).1
        rw [show nf (2 * l) = 2 * l + 1 by unfold nf; rw [if_pos (by omega)]] at hne
        rw [mE0 hm hL hlt, mE hm hL hlt (Nat.le_refl 1), hR _ e1, hR _ e2, b_add (show l + 1 < 4294967296 by omega)] at q
        have tr := abv_tri (R := R) (hrk _ e1) (hrk _ e2) hne
        have go : ∀ x, x = uend E R l → (∃ m, m < n ∧ Rn m k_M_orientBy 7 [(2, 175), (3, 0), (0, l + 1)] [] (fu F 190 l x) v F') → fxo [190] F F' ∧ (∀ l, l < L → F' 190 l = uend E R l) ∧ ∀ l, L ≤ l → F' 190 l = F 190 l := by
          intro x hx ⟨m, hm2, hq⟩
          have ho : fxo [190] F (fu F 190 l x) := fxo.rf.wr List.mem_cons_self
          obtain ⟨r1, r2, r3⟩ := ih m hm2 _ (l + 1) hq (hm.keep ho (by decide) (by decide) (by decide) (by decide)) (fun u hu => by rw [fu_p (by decide)]; exact hR u hu) (by omega) (fun j hj => by
            by_cases hz : j = l
            · rw [hz, fu_same]; exact hx
            · rw [fu_i hz]; exact hI j (by omega))
          exact ⟨ho.tr r1, r2, fun j hj => by rw [r3 j hj, fu_i (by omega)]⟩
        have ya : abv R (E (2 * l)) (E (2 * l + 1)) → E (2 * l) = uend E R l := fun z => by unfold uend; rw [if_neg (tr.mp z)]
        have na : ¬ abv R (E (2 * l)) (E (2 * l + 1)) → E (2 * l + 1) = uend E R l := fun z => by unfold uend; rw [if_pos (Classical.byContradiction (fun z2 => z (tr.mpr z2)))]
        have tri : ∀ a b, ¬ s_lt a b → s_le b a := by
          intro a b z
          rw [s_lt_eq] at z
          rw [s_le_eq]
          exact Nat.le_of_not_lt z
        by_cases h1 : s_lt (R (E (2 * l))) (R (E (2 * l + 1)))
        · exact go _ (ya (Or.inl h1)) (q.1 h1)
        · replace q := q.2 (tri _ _ h1)
          by_cases h2 : R (E (2 * l)) = R (E (2 * l + 1))
          · replace q := q.2 h2
            rcases Nat.lt_or_ge (E (2 * l)) (E (2 * l + 1)) with h3 | h3
            · exact go _ (ya (Or.inr ⟨h2, h3⟩)) (q.2 (by rw [b_lt (by omega) (by omega)]; exact h3))
            · refine go _ (na (fun z => ?_)) (q.1 (by rw [b_le (by omega) (by omega)]; exact h3))
              rcases z with z | ⟨_, z⟩
              · exact h1 z
              · omega
          · refine go _ (na (fun z => ?_)) (q.1 h2)
            rcases z with z | ⟨z, _⟩
            · exact h1 z
            · exact h2 z
      · obtain ⟨-, e⟩ := q.1 (by rw [b_le (by omega) (by omega)]; exact hlt)
        subst e
        exact ⟨fxo.rf, fun j hj => hI j (by omega), fun _ _ => rfl⟩
  obtain ⟨r1, r2, r3⟩ := lp m F1 0 hR (hm.keep a1 (by decide) (by decide) (by decide) (by decide)) (fun u hu => (a2 u hu).2) (Nat.zero_le _) (fun u hu => absurd hu (Nat.not_lt_zero _))
  exact ⟨(a1.mono (by decide)).tr (r1.mono (by decide)), r2, fun l hl => (r3 l hl).trans (a1 190 l (by decide))⟩
end MRK
end
section
/-! Longs as sets of bits -/
theorem j_bv {x : Nat} (hx : x < 18446744073709551616) : (Int64.ofNat x).toBitVec.toNat = x := by
  show (BitVec.ofNat 64 x).toNat = x
  rw [BitVec.toNat_ofNat]
  exact Nat.mod_eq_of_lt hx
theorem j_or {x y : Nat} (hx : x < 18446744073709551616) (hy : y < 18446744073709551616) : rx_j_or x y = x ||| y := by
  show (Int64.ofNat x ||| Int64.ofNat y).toBitVec.toNat = x ||| y
  rw [Int64.toBitVec_or, BitVec.toNat_or, j_bv hx, j_bv hy]
theorem j_and {x y : Nat} (hx : x < 18446744073709551616) (hy : y < 18446744073709551616) : rx_j_and x y = x &&& y := by
  show (Int64.ofNat x &&& Int64.ofNat y).toBitVec.toNat = x &&& y
  rw [Int64.toBitVec_and, BitVec.toNat_and, j_bv hx, j_bv hy]
theorem j_xor {x y : Nat} (hx : x < 18446744073709551616) (hy : y < 18446744073709551616) : rx_j_xor x y = x ^^^ y := by
  show (Int64.ofNat x ^^^ Int64.ofNat y).toBitVec.toNat = x ^^^ y
  rw [Int64.toBitVec_xor, BitVec.toNat_xor, j_bv hx, j_bv hy]
theorem j_shl1 {k : Nat} (hk : k < 64) : rx_j_shl 1 k = 2 ^ k := by
  have h : ∀ k, k < 64 → rx_j_shl 1 k = 2 ^ k := by decide +kernel
  exact h k hk
theorem j_msk {k : Nat} (hk : k < 64) : (Int32.ofNat k).toInt64 &&& 63 = Int64.ofNat k := by
  have h : ∀ k, k < 64 → (Int32.ofNat k).toInt64 &&& 63 = Int64.ofNat k := by decide +kernel
  exact h k hk
theorem j_shr {x k : Nat} (hx : x < 9223372036854775808) (hk : k < 64) : rx_j_shr x k = x / 2 ^ k := by
  show (Int64.ofNat x >>> ((Int32.ofNat k).toInt64 &&& 63)).toBitVec.toNat = x / 2 ^ k
  rw [j_msk hk, Int64.toBitVec_shiftRight]
  have e : (Int64.ofNat k).toBitVec.smod 64 = BitVec.ofNat 64 k := by
    have h : ∀ k, k < 64 → (Int64.ofNat k).toBitVec.smod 64 = BitVec.ofNat 64 k := by decide +kernel
    exact h k hk
  rw [e]
  show ((Int64.ofNat x).toBitVec.sshiftRight (BitVec.ofNat 64 k).toNat).toNat = x / 2 ^ k
  rw [BitVec.toNat_ofNat, Nat.mod_eq_of_lt (show k < 2 ^ 64 by omega)]
  have hm : (Int64.ofNat x).toBitVec.msb = false := by
    show (BitVec.ofNat 64 x).msb = false
    rw [BitVec.msb_eq_decide, BitVec.toNat_ofNat, Nat.mod_eq_of_lt (show x < 2 ^ 64 by omega)]
    exact decide_eq_false (by show ¬ (2 ^ (64 - 1) ≤ x); omega)
  rw [BitVec.sshiftRight_eq_of_msb_false hm, BitVec.toNat_ushiftRight, j_bv (by omega), Nat.shiftRight_eq_div_pow]
theorem j_cmp {x y : Nat} (hx : x < 18446744073709551616) (hy : y < 18446744073709551616) : rx_f_lcmp x y = 0 ↔ x = y := by
  show rx_i32 (lg_cmp (Int64.ofNat x) (Int64.ofNat y)) = 0 ↔ x = y
  have key : Int64.ofNat x = Int64.ofNat y ↔ x = y := ⟨fun h => by rw [← j_bv hx, ← j_bv hy, h], fun h => by rw [h]⟩
  unfold lg_cmp
  by_cases h1 : Int64.ofNat x > Int64.ofNat y
  · rw [if_pos h1]
    refine ⟨fun z => absurd z (by decide), fun z => ?_⟩
    rw [z] at h1
    exact (Int64.lt_irrefl h1).elim
  · rw [if_neg h1]
    by_cases h2 : Int64.ofNat x = Int64.ofNat y
    · rw [if_pos h2]
      exact ⟨fun _ => key.mp h2, fun _ => by decide⟩
    · rw [if_neg h2]
      exact ⟨fun z => absurd z (by decide), fun z => absurd (key.mpr z) h2⟩
/-- a bit of a long -/
theorem j_bit {x k : Nat} (hx : x < 9223372036854775808) (hk : k < 64) : rx_f_lcmp (rx_j_and (rx_j_shr x k) 1) 1 = 0 ↔ x.testBit k = true := by
  have h1 : x / 2 ^ k < 18446744073709551616 := Nat.lt_of_le_of_lt (Nat.div_le_self _ _) (by omega)
  rw [j_shr hx hk, j_and h1 (by decide), Nat.and_one_is_mod, j_cmp (by omega) (by decide), Nat.testBit_eq_decide_div_mod_eq, decide_eq_true_iff]
theorem j_zero {x : Nat} (hx : x < 18446744073709551616) : rx_f_lcmp x 0 = 0 ↔ x = 0 := j_cmp hx (by decide)
/-- less a set -/
theorem j_less {x y : Nat} (hx : x < 18446744073709551616) (hy : y < 18446744073709551616) : rx_j_and x (rx_j_xor y 18446744073709551615) ≤ x ∧ ∀ i, (rx_j_and x (rx_j_xor y 18446744073709551615)).testBit i = (x.testBit i && !(y.testBit i)) := by
  have hz : y ^^^ 18446744073709551615 < 18446744073709551616 := Nat.xor_lt_two_pow (n := 64) hy (by decide)
  rw [j_xor hy (by decide), j_and hx hz]
  refine ⟨Nat.and_le_left, fun i => ?_⟩
  rw [Nat.testBit_and, Nat.testBit_xor, show (18446744073709551615 : Nat) = 2 ^ 64 - 1 from rfl, Nat.testBit_two_pow_sub_one]
  by_cases hi : i < 64
  · rw [decide_eq_true hi]
    cases x.testBit i <;> cases y.testBit i <;> rfl
  · have : x.testBit i = false := Nat.testBit_lt_two_pow (Nat.lt_of_lt_of_le hx (show 2 ^ 64 ≤ 2 ^ i from Nat.pow_le_pow_right (by decide) (by omega)))
    rw [this]
    rfl
theorem j_add1 {x k : Nat} (hx : x < 18446744073709551616) (hk : k < 64) : rx_j_or x (rx_j_shl 1 k) = x ||| 2 ^ k := by
  rw [j_shl1 hk, j_or hx (show 2 ^ k < 2 ^ 64 from Nat.pow_lt_pow_right (by decide) hk)]
theorem j_full {k : Nat} (hk : k < 63) : rx_j_sub (rx_j_shl 1 k) 1 = 2 ^ k - 1 := by
  have h : ∀ k, k < 63 → rx_j_sub (rx_j_shl 1 k) 1 = 2 ^ k - 1 := by decide +kernel
  exact h k hk
theorem tb_ext {x y : Nat} (h : ∀ i, x.testBit i = y.testBit i) : x = y := Nat.eq_of_testBit_eq h
theorem tb_lt {x k : Nat} (h : ∀ i, x.testBit i = true → i < k) : x < 2 ^ k := by
  refine Nat.lt_pow_two_of_testBit x (fun i hi => ?_)
  cases hz : x.testBit i with
  | false => rfl
  | true => exact absurd (h i hz) (by omega)
theorem tb_out {x k i : Nat} (hx : x < 2 ^ k) (hi : k ≤ i) : x.testBit i = false := Nat.testBit_lt_two_pow (Nat.lt_of_lt_of_le hx (Nat.pow_le_pow_right (by decide) hi))
end
section
/-! Turns and rings -/
/-- whether a channel is UP, where u says of which links the second end is the upper one -/
def isup (u : Nat → Bool) (c : Nat) : Bool := if c % 2 = 0 then u (c / 2) else !(u (c / 2))
/-- a lawful turn -/
def trn (L : Nat) (E : Nat → Nat) (st u : Nat → Bool) (c d : Nat) : Prop := c < 2 * L ∧ d < 2 * L ∧ c / 2 ≠ d / 2 ∧ st (c / 2) = true ∧ st (d / 2) = true ∧ E (nf c) = E d ∧ (isup u c = true ∨ isup u d = false)
section TU
variable {nn L s : Nat} {E : Nat → Nat} {v : fx_V} {F' : fx_F}
theorem i_xor1 {c : Nat} (h : c < 64) : i_xor c 1 = nf c := by
  have h2 : ∀ c, c < 64 → c ^^^ 1 = nf c := by decide
  rw [b_xor (k := 6) (by decide) h (by decide)]
  exact h2 c h
theorem p40 {x L : Nat} (hL : L ≤ 20) (h : x < 2 ^ (2 * L)) : x < 1099511627776 := Nat.lt_of_lt_of_le h (show 2 ^ (2 * L) ≤ 2 ^ 40 from Nat.pow_le_pow_right (by decide) (by omega))
theorem cn.wr {n : Nat} {F : fx_F} (h : cn F n L E) {p i x : Nat} (h3 : p ≠ 3) (h4 : p ≠ 4) (h5 : p ≠ 5) : cn (fu F p i x) n L E :=
  ⟨(fu_p (fun z => h3 z.symm)).trans h.1, (fu_p (fun z => h3 z.symm)).trans h.2.1, fun c hc => ⟨(fu_p (fun z => h4 z.symm)).trans (h.2.2 c hc).1, (fu_p (fun z => h5 z.symm)).trans (h.2.2 c hc).2⟩⟩
theorem s_upChannels (hN : nt_ok nn L E) {u : Nat} (hu : u < 2147483648) {F : fx_F} (hc : cn F nn L E) (h : Cl k_Tu_upChannels [(2, 45), (0, u)] F v F') : ∃ x, v = (1, x) ∧ F' = F ∧ x < 2 ^ (2 * L) ∧ ∀ j, x.testBit j = true ↔ j < 2 * L ∧ isup (fun l => u.testBit l) j = true := by
  obtain ⟨n, h⟩ := c_Tu_upChannels h
  obtain ⟨m, hm, hR⟩ := q_Tu_upChannels_0 h
  have hL := hN.2.1
  have lp : ∀ (n c x : Nat), Rn n k_Tu_upChannels 5 [(2, 45), (0, u), (1, x), (3, 0), (0, c)] [] F v F' → c ≤ 2 * L → (∀ j, x.testBit j = true ↔ j < c ∧ isup (fun l => u.testBit l) j = true) → ∃ x, v = (1, x) ∧ F' = F ∧ x < 2 ^ (2 * L) ∧ ∀ j, x.testBit j = true ↔ j < 2 * L ∧ isup (fun l => u.testBit l) j = true := by
    intro n
    induction n using Nat.strongRecOn with
    | ind n ih =>
      intro c x h hcL hI
      have q := q_Tu_upChannels_5 h
      have hx : x < 2 ^ (2 * L) := tb_lt (fun i hi => by have := ((hI i).mp hi).1; omega)
      have hx2 := p40 hL hx
      rw [hc.2.1, b_mul (by omega)] at q
      rcases Nat.lt_or_ge c (2 * L) with hl | hl
      · replace q := q.2 (by rw [b_lt (by omega) (by omega)]; exact hl)
        rw [b_bit hu (by omega), b_and1, b_add (show c + 1 < 4294967296 by omega), j_add1 (by omega) (by omega)] at q
        have iu : isup (fun l => u.testBit l) c = (if c % 2 = 0 then u.testBit (c / 2) else !(u.testBit (c / 2))) := rfl
        by_cases hz : isup (fun l => u.testBit l) c = true
        · have hne : (if u.testBit (c / 2) then 1 else 0) ≠ c % 2 := by
            rw [iu] at hz
            intro z
            cases hb : u.testBit (c / 2) <;> rw [hb] at z hz
            · replace z : 0 = c % 2 := z
              rw [if_pos z.symm] at hz
              cases hz
            · replace z : 1 = c % 2 := z
              rw [if_neg (by omega)] at hz
              cases hz
          obtain ⟨m, hm, hR⟩ := q.2 hne
          refine ih m hm (c + 1) _ hR (by omega) (fun j => ?_)
          rw [tb_or, Bool.or_eq_true, hI j, decide_eq_true_iff]
          constructor
          · rintro (⟨a, b⟩ | a)
            · exact ⟨by omega, b⟩
            · rw [a]; exact ⟨by omega, hz⟩
          · rintro ⟨a, b⟩
            by_cases e : j = c
            · exact Or.inr e
            · exact Or.inl ⟨by omega, b⟩
        · have heq : (if u.testBit (c / 2) then 1 else 0) = c % 2 := by
            rw [iu] at hz
            rcases Nat.mod_two_eq_zero_or_one c with z | z
            · rw [if_pos z] at hz
              rw [z, if_neg hz]
            · rw [if_neg (by omega)] at hz
              cases hb : u.testBit (c / 2)
              · rw [hb] at hz; exact absurd rfl hz
              · rw [z]; rfl
          obtain ⟨m, hm, hR⟩ := q.1 heq
          refine ih m hm (c + 1) x hR (by omega) (fun j => ?_)
          rw [hI j]
          constructor
          · rintro ⟨a, b⟩
            exact ⟨by omega, b⟩
          · rintro ⟨a, b⟩
            refine ⟨?_, b⟩
            by_cases e : j = c
            · rw [e] at b; exact absurd b hz
            · omega
      · obtain ⟨e1, e2⟩ := q.1 (by rw [b_le (by omega) (by omega)]; exact hl)
        have : c = 2 * L := by omega
        subst this
        exact ⟨x, e1, e2, hx, hI⟩
  exact lp m 0 0 hR (Nat.zero_le _) (fun j => by rw [Nat.zero_testBit]; exact ⟨fun z => (by cases z), fun z => absurd z.1 (Nat.not_lt_zero _)⟩)
/-- the channels that stand and leave each switch, as bits -/
def lvg (F : fx_F) (n L : Nat) (E : Nat → Nat) (st : Nat → Bool) (k : Nat) : Prop := ∀ x, x < n → ∀ j, (F 46 x).testBit j = true ↔ j < k ∧ j < 2 * L ∧ st (j / 2) = true ∧ E j = x
theorem s_lawful (hN : nt_ok nn L E) {st : Nat → Bool} {c ups : Nat} {u : Nat → Bool} {F : fx_F} (hc : cn F nn L E) (hl : lvg F nn L E st (2 * L)) (hcl : c < 2 * L) (hst : st (c / 2) = true) (hup : ups < 2 ^ (2 * L)) (hu : ∀ j, ups.testBit j = true ↔ j < 2 * L ∧ isup u j = true) (h : Cl k_Tu_lawful [(2, 45), (0, c), (1, ups)] F v F') : ∃ x, v = (1, x) ∧ F' = F ∧ ∀ j, x.testBit j = true ↔ trn L E st u c j := by
  obtain ⟨n, h⟩ := c_Tu_lawful h
  have q := q_Tu_lawful_0 h
  have hL := hN.2.1
  have hE := (hN.2.2 _ (nf_lt hcl)).1
  have hup2 := p40 hL hup
  have hlt : F 46 (E (nf c)) < 2 ^ (2 * L) := tb_lt (fun i hi => ((hl _ hE i).mp hi).2.1)
  have hlt2 := p40 hL hlt
  have hsh : rx_j_shl 1 (nf c) < 18446744073709551616 := by
    rw [j_shl1 (by have := nf_lt hcl; omega)]
    exact (show 2 ^ nf c < 2 ^ 64 from Nat.pow_lt_pow_right (by decide) (by have := nf_lt hcl; omega))
  rw [(hc.2.2 c hcl).2, i_xor1 (by omega)] at q
  obtain ⟨a1, a2⟩ := j_less (x := F 46 (E (nf c))) (y := rx_j_shl 1 (nf c)) (by omega) hsh
  have b1 : ∀ j, (rx_j_and (F 46 (E (nf c))) (rx_j_xor (rx_j_shl 1 (nf c)) 18446744073709551615)).testBit j = true ↔ j < 2 * L ∧ st (j / 2) = true ∧ E j = E (nf c) ∧ j / 2 ≠ c / 2 := by
    intro j
    rw [a2 j, Bool.and_eq_true, hl _ hE j, j_shl1 (by have := nf_lt hcl; omega), Nat.testBit_two_pow]
    constructor
    · rintro ⟨⟨_, x1, x2, x3⟩, x4⟩
      refine ⟨x1, x2, x3, fun z => ?_⟩
      have hj : j = c ∨ j = nf c := by unfold nf; split <;> omega
      rcases hj with e | e
      · subst e
        exact (hN.2.2 j hcl).2 x3
      · rw [e, decide_eq_true rfl] at x4
        cases x4
    · rintro ⟨x1, x2, x3, x4⟩
      refine ⟨⟨x1, x1, x2, x3⟩, ?_⟩
      rw [decide_eq_false (fun z => x4 (by rw [← z, nf_div]))]
      rfl
  have hb : rx_f_lcmp (rx_j_and (rx_j_shr ups c) 1) 1 = 0 ↔ isup u c = true := by
    rw [j_bit (by omega) (by omega), hu c]
    exact ⟨fun z => z.2, fun z => ⟨hcl, z⟩⟩
  by_cases hz : isup u c = true
  · obtain ⟨e1, e2⟩ := q.2 (hb.mpr hz)
    refine ⟨_, e1, e2, fun j => ?_⟩
    rw [b1 j]
    unfold trn
    exact ⟨fun ⟨x1, x2, x3, x4⟩ => ⟨hcl, x1, fun z => x4 z.symm, hst, x2, x3.symm, Or.inl hz⟩, fun ⟨_, x1, x2, _, x4, x5, _⟩ => ⟨x1, x4, x5.symm, fun z => x2 z.symm⟩⟩
  · obtain ⟨e1, e2⟩ := q.1 (fun z => hz (hb.mp z))
    refine ⟨_, e1, e2, fun j => ?_⟩
    obtain ⟨d1, d2⟩ := j_less (x := rx_j_and (F 46 (E (nf c))) (rx_j_xor (rx_j_shl 1 (nf c)) 18446744073709551615)) (y := ups) (by omega) (by omega)
    rw [d2 j, Bool.and_eq_true, b1 j]
    unfold trn
    constructor
    · rintro ⟨⟨x1, x2, x3, x4⟩, x5⟩
      refine ⟨hcl, x1, fun z => x4 z.symm, hst, x2, x3.symm, Or.inr ?_⟩
      cases hq : isup u j with
      | false => rfl
      | true => rw [(hu j).mpr ⟨x1, hq⟩] at x5; cases x5
    · rintro ⟨_, x1, x2, _, x4, x5, x6⟩
      refine ⟨⟨x1, x4, x5.symm, fun z => x2 z.symm⟩, ?_⟩
      rcases x6 with x6 | x6
      · exact absurd x6 hz
      · cases hq : ups.testBit j with
        | false => rfl
        | true => rw [((hu j).mp hq).2] at x6; cases x6
/-- turns by one or the other of two sets of rules, as bits -/
def ontos (F : fx_F) (L : Nat) (T : Nat → Nat → Prop) (k : Nat) : Prop := ∀ c, c < k → ∀ j, (F 47 c).testBit j = true ↔ T c j
theorem s_take (hN : nt_ok nn L E) {a b : Nat} (ha : a < 2147483648) (hb : b < 2147483648) (hs : s < 2147483648) {F : fx_F} (hc : cn F nn L E) (h : Cl k_Tu_take [(2, 45), (0, a), (0, b), (0, s)] F v F') : fxo [46, 47] F F' ∧ ontos F' L (fun c d => trn L E (fun l => s.testBit l) (fun l => a.testBit l) c d ∨ trn L E (fun l => s.testBit l) (fun l => b.testBit l) c d) (2 * L) := by
  obtain ⟨n, h⟩ := c_Tu_take h
  obtain ⟨m, hm, hR⟩ := q_Tu_take_0 h
  have hL := hN.2.1
  have hn := hN.1
  have lp3 : ∀ (n : Nat) (F : fx_F) (c ua ub : Nat), Rn n k_Tu_take 101 [(2, 45), (3, 0), (3, 0), (0, s), (1, ua), (3, 0), (1, ub), (3, 0), (0, c)] [] F v F' → cn F nn L E → c ≤ 2 * L → lvg F nn L E (fun l => s.testBit l) (2 * L) → (ua < 2 ^ (2 * L) ∧ ∀ j, ua.testBit j = true ↔ j < 2 * L ∧ isup (fun l => a.testBit l) j = true) → (ub < 2 ^ (2 * L) ∧ ∀ j, ub.testBit j = true ↔ j < 2 * L ∧ isup (fun l => b.testBit l) j = true) → ontos F L (fun c d => trn L E (fun l => s.testBit l) (fun l => a.testBit l) c d ∨ trn L E (fun l => s.testBit l) (fun l => b.testBit l) c d) c → fxo [46, 47] F F' ∧ ontos F' L (fun c d => trn L E (fun l => s.testBit l) (fun l => a.testBit l) c d ∨ trn L E (fun l => s.testBit l) (fun l => b.testBit l) c d) (2 * L) := by
    intro n
    induction n using Nat.strongRecOn with
    | ind n ih =>
      intro F c ua ub h hc hcL hlv hua hub hI
      have q := q_Tu_take_101 h
      rw [hc.2.1, b_mul (by omega)] at q
      rcases Nat.lt_or_ge c (2 * L) with hl | hl
      · replace q := q.2 (by rw [b_lt (by omega) (by omega)]; exact hl)
        rw [b_bit hs (by omega), b_add (show c + 1 < 4294967296 by omega)] at q
        have go : ∀ x, (∃ m, m < n ∧ Rn m k_Tu_take 101 [(2, 45), (3, 0), (3, 0), (0, s), (1, ua), (3, 0), (1, ub), (3, 0), (0, c + 1)] [] (fu F 47 c x) v F') → (∀ j, x.testBit j = true ↔ trn L E (fun l => s.testBit l) (fun l => a.testBit l) c j ∨ trn L E (fun l => s.testBit l) (fun l => b.testBit l) c j) → fxo [46, 47] F F' ∧ ontos F' L (fun c d => trn L E (fun l => s.testBit l) (fun l => a.testBit l) c d ∨ trn L E (fun l => s.testBit l) (fun l => b.testBit l) c d) (2 * L) := by
          intro x ⟨m, hm, hR⟩ hx
          obtain ⟨r1, r2⟩ := ih m hm _ (c + 1) ua ub hR (hc.wr (by decide) (by decide) (by decide)) (by omega) (fun x hx j => by rw [fu_p (by decide)]; exact hlv x hx j) hua hub (fun c' hc' j => by
            by_cases e : c' = c
            · subst e; rw [fu_same]; exact hx j
            · rw [fu_i e]; exact hI c' (by omega) j)
          exact ⟨(fxo.rf.wr (by decide)).tr r1, r2⟩
        cases hb : s.testBit (c / 2) with
        | false =>
          rw [hb] at q
          refine go 0 (q.1 (by decide)) (fun j => ?_)
          rw [Nat.zero_testBit]
          refine ⟨fun z => (by cases z), fun z => ?_⟩
          rcases z with z | z
          · have : s.testBit (c / 2) = true := z.2.2.2.1
            rw [hb] at this; cases this
          · have : s.testBit (c / 2) = true := z.2.2.2.1
            rw [hb] at this; cases this
        | true =>
          rw [hb] at q
          obtain ⟨n1, F1, c1, n2, F2, c2, q2⟩ := q.2 rfl
          obtain ⟨x1, e1, e2, e3⟩ := s_lawful hN hc hlv hl hb hua.1 hua.2 c1
          cases e1
          subst e2
          obtain ⟨x2, f1, f2, f3⟩ := s_lawful hN hc hlv hl hb hub.1 hub.2 c2
          cases f1
          subst f2
          have l1 := p40 hL (tb_lt (fun i hi => ((e3 i).mp hi).2.1))
          have l2 := p40 hL (tb_lt (fun i hi => ((f3 i).mp hi).2.1))
          refine go _ q2 (fun j => ?_)
          rw [j_or (by omega) (by omega), Nat.testBit_or, Bool.or_eq_true, e3 j, f3 j]
      · obtain ⟨-, e⟩ := q.1 (by rw [b_le (by omega) (by omega)]; exact hl)
        subst e
        have : c = 2 * L := by omega
        subst this
        exact ⟨fxo.rf, hI⟩
  have lp2 : ∀ (n : Nat) (F : fx_F) (c : Nat), Rn n k_Tu_take 32 [(2, 45), (0, a), (0, b), (0, s), (0, c), (3, 0), (3, 0), (3, 0), (3, 0)] [] F v F' → cn F nn L E → c ≤ 2 * L → lvg F nn L E (fun l => s.testBit l) c → fxo [46, 47] F F' ∧ ontos F' L (fun c d => trn L E (fun l => s.testBit l) (fun l => a.testBit l) c d ∨ trn L E (fun l => s.testBit l) (fun l => b.testBit l) c d) (2 * L) := by
    intro n
    induction n using Nat.strongRecOn with
    | ind n ih =>
      intro F c h hc hcL hI
      have q := q_Tu_take_32 h
      rw [hc.2.1, b_mul (by omega)] at q
      rcases Nat.lt_or_ge c (2 * L) with hl | hl
      · replace q := q.2 (by rw [b_lt (by omega) (by omega)]; exact hl)
        have hE := (hN.2.2 c hl).1
        rw [b_bit hs (by omega), b_add (show c + 1 < 4294967296 by omega), (hc.2.2 c hl).1] at q
        cases hb : s.testBit (c / 2) with
        | false =>
          rw [hb] at q
          obtain ⟨m, hm, hR⟩ := q.1 (by decide)
          refine ih m hm F (c + 1) hR hc (by omega) (fun x hx j => ?_)
          rw [hI x hx j]
          constructor
          · rintro ⟨x1, x2⟩; exact ⟨by omega, x2⟩
          · rintro ⟨x1, x2, x3, x4⟩
            refine ⟨?_, x2, x3, x4⟩
            by_cases e : j = c
            · subst e
              replace x3 : s.testBit (j / 2) = true := x3
              rw [hb] at x3; cases x3
            · omega
        | true =>
          rw [hb] at q
          have hlt2 := p40 hL (tb_lt (fun i hi => ((hI _ hE i).mp hi).2.1))
          rw [j_add1 (by omega) (by omega)] at q
          obtain ⟨m, hm, hR⟩ := q.2 rfl
          obtain ⟨r1, r2⟩ := ih m hm _ (c + 1) hR (hc.wr (by decide) (by decide) (by decide)) (by omega) (fun x hx j => by
            by_cases e : x = E c
            · subst e
              rw [fu_same, tb_or, Bool.or_eq_true, hI _ hx j, decide_eq_true_iff]
              constructor
              · rintro (⟨x1, x2⟩ | x1)
                · exact ⟨by omega, x2⟩
                · subst x1; exact ⟨by omega, hl, hb, rfl⟩
              · rintro ⟨x1, x2⟩
                by_cases e : j = c
                · exact Or.inr e
                · exact Or.inl ⟨by omega, x2⟩
            · rw [fu_i e, hI x hx j]
              constructor
              · rintro ⟨x1, x2⟩; exact ⟨by omega, x2⟩
              · rintro ⟨x1, x2, x3, x4⟩
                refine ⟨?_, x2, x3, x4⟩
                by_cases e2 : j = c
                · subst e2; exact absurd x4.symm e
                · omega)
          exact ⟨(fxo.rf.wr (by decide)).tr r1, r2⟩
      · obtain ⟨n1, F1, c1, n2, F2, c2, m, hm, hR⟩ := q.1 (by rw [b_le (by omega) (by omega)]; exact hl)
        obtain ⟨x1, e1, e2, e3, e4⟩ := s_upChannels hN ha hc c1
        cases e1
        subst e2
        obtain ⟨x2, f1, f2, f3, f4⟩ := s_upChannels hN hb hc c2
        cases f1
        subst f2
        have : c = 2 * L := by omega
        subst this
        exact lp3 m F2 0 n1 n2 hR hc (Nat.zero_le _) hI ⟨e3, e4⟩ ⟨f3, f4⟩ (fun c hc => absurd hc (Nat.not_lt_zero _))
  have lp1 : ∀ (n : Nat) (F : fx_F) (i : Nat), Rn n k_Tu_take 3 [(2, 45), (0, a), (0, b), (0, s), (0, i), (3, 0), (3, 0), (3, 0), (3, 0)] [] F v F' → cn F nn L E → i ≤ nn → (∀ x, x < i → F 46 x = 0) → fxo [46, 47] F F' ∧ ontos F' L (fun c d => trn L E (fun l => s.testBit l) (fun l => a.testBit l) c d ∨ trn L E (fun l => s.testBit l) (fun l => b.testBit l) c d) (2 * L) := by
    intro n
    induction n using Nat.strongRecOn with
    | ind n ih =>
      intro F i h hc hi hI
      have q := q_Tu_take_3 h
      rw [hc.1] at q
      rcases Nat.lt_or_ge i nn with hl | hl
      · obtain ⟨m, hm, hR⟩ := q.2 (by rw [b_lt (by omega) (by omega)]; exact hl)
        rw [b_add (show i + 1 < 4294967296 by omega)] at hR
        obtain ⟨r1, r2⟩ := ih m hm _ (i + 1) hR (hc.wr (by decide) (by decide) (by decide)) (by omega) (fun x hx => by
          by_cases e : x = i
          · rw [e, fu_same]
          · rw [fu_i e]; exact hI x (by omega))
        exact ⟨(fxo.rf.wr (by decide)).tr r1, r2⟩
      · obtain ⟨m, hm, hR⟩ := q.1 (by rw [b_le (by omega) (by omega)]; exact hl)
        exact lp2 m F 0 hR hc (Nat.zero_le _) (fun x hx j => by
          rw [hI x (by omega), Nat.zero_testBit]
          exact ⟨fun z => (by cases z), fun z => absurd z.1 (Nat.not_lt_zero _)⟩)
  exact lp1 m F 0 hR hc (Nat.zero_le _) (fun x hx => absurd hx (Nat.not_lt_zero _))
end TU
end
section
/-! Rings -/
def pth (T : Nat → Nat → Prop) : Nat → Nat → Nat → Prop
  | 0, a, b => a = b
  | k + 1, a, b => ∃ d, T a d ∧ pth T k d b
def cyc (T : Nat → Nat → Prop) : Prop := ∃ c k, pth T (k + 1) c c
def clo (T : Nat → Nat → Prop) (S : Nat → Prop) : Prop := ∀ c, S c → ∃ d, S d ∧ T c d
section RNG
variable {T : Nat → Nat → Prop} {M : Nat}
theorem pth_snoc : ∀ {k a b d : Nat}, pth T k a b → T b d → pth T (k + 1) a d
  | 0, a, b, d, h, h2 => ⟨d, by rw [show a = b from h]; exact h2, rfl⟩
  | k + 1, a, b, d, ⟨e, h1, h3⟩, h2 => ⟨e, h1, pth_snoc h3 h2⟩
theorem clo_of_cyc (h : cyc T) : ∃ S : Nat → Prop, clo T S ∧ ∃ c, S c := by
  obtain ⟨c, k, hk⟩ := h
  refine ⟨fun x => ∃ j, pth T j x c, fun x ⟨j, hj⟩ => ?_, c, 0, rfl⟩
  cases j with
  | zero =>
    have : x = c := hj
    subst this
    obtain ⟨d, h1, h2⟩ := hk
    exact ⟨d, ⟨k, h2⟩, h1⟩
  | succ j =>
    obtain ⟨d, h1, h2⟩ := hj
    exact ⟨d, ⟨j, h2⟩, h1⟩
theorem cyc_of_clo {S : Nat → Prop} (hS : clo T S) (hM : ∀ c, S c → c < M) {c : Nat} (hc : S c) : cyc T := by
  have st : ∀ x, ∃ d, S x → (S d ∧ T x d) := fun x => by
    by_cases hx : S x
    · obtain ⟨d, h1, h2⟩ := hS x hx
      exact ⟨d, fun _ => ⟨h1, h2⟩⟩
    · exact ⟨0, fun z => absurd z hx⟩
  let f : Nat → Nat := fun i => Nat.rec c (fun _ x => (st x).choose) i
  have f1 : ∀ i, f (i + 1) = (st (f i)).choose := fun i => rfl
  have fS : ∀ i, S (f i) := by
    intro i
    induction i with
    | zero => exact hc
    | succ i ih => rw [f1]; exact ((st (f i)).choose_spec ih).1
  have fT : ∀ i, T (f i) (f (i + 1)) := fun i => by rw [f1]; exact ((st (f i)).choose_spec (fS i)).2
  have fp : ∀ k i, pth T k (f i) (f (i + k)) := by
    intro k
    induction k with
    | zero => intro i; rfl
    | succ k ih => intro i; exact pth_snoc (ih i) (fT (i + k))
  by_cases hx : ∃ i j, i < j ∧ j ≤ M ∧ f i = f j
  · obtain ⟨i, j, h1, _, h3⟩ := hx
    refine ⟨f i, j - i - 1, ?_⟩
    have := fp (j - i - 1 + 1) i
    rw [show i + (j - i - 1 + 1) = j by omega, ← h3] at this
    exact this
  · have := pg_hole M M f (fun k _ => hM _ (fS k)) (fun i j hi hj hij => by
      rcases Nat.lt_trichotomy i j with z | z | z
      · exact absurd ⟨i, j, z, hj, hij⟩ hx
      · exact z
      · exact absurd ⟨j, i, z, hi, hij.symm⟩ hx)
    omega
end RNG
theorem cnt_mono {p q : Nat → Bool} : ∀ {n : Nat}, (∀ i, i < n → p i = true → q i = true) → cnt p n ≤ cnt q n
  | 0, _ => Nat.le_refl 0
  | n + 1, h => by
    have := cnt_mono (p := p) (q := q) (n := n) (fun i hi => h i (by omega))
    have h2 := h n (by omega)
    show cnt p n + (if p n then 1 else 0) ≤ cnt q n + (if q n then 1 else 0)
    cases hp : p n with
    | false => rw [if_neg (by decide)]; omega
    | true => rw [h2 hp]; rw [if_pos rfl]; omega
theorem cnt_less {p q : Nat → Bool} : ∀ {n c : Nat}, c < n → (∀ i, i < n → p i = true → q i = true) → q c = true → p c = false → cnt p n + 1 ≤ cnt q n
  | 0, c, hc, _, _, _ => absurd hc (Nat.not_lt_zero c)
  | n + 1, c, hc, h, hq, hp => by
    show cnt p n + (if p n then 1 else 0) + 1 ≤ cnt q n + (if q n then 1 else 0)
    by_cases e : c = n
    · subst e
      rw [hq, hp, if_pos rfl, if_neg (by decide)]
      have := cnt_mono (p := p) (q := q) (n := c) (fun i hi => h i (by omega))
      omega
    · have := cnt_less (p := p) (q := q) (n := n) (c := c) (by omega) (fun i hi => h i (by omega)) hq hp
      have h2 := h n (by omega)
      cases hp2 : p n with
      | false => rw [if_neg (by decide)]; split <;> omega
      | true => rw [h2 hp2, if_pos rfl]; omega
section HR
variable {nn L : Nat} {E : Nat → Nat} {v : fx_V} {F' : fx_F} {T : Nat → Nat → Prop}
noncomputable def hrC (L : Nat) (T : Nat → Nat → Prop) (x : Nat) : Prop := x < 2 ^ (2 * L) ∧ ∀ S : Nat → Prop, (∀ c, S c → c < 2 * L) → clo T S → ∀ c, S c → x.testBit c = true
theorem s_haveRing (hN : nt_ok nn L E) (hT : ∀ c d, T c d → c < 2 * L ∧ d < 2 * L) {F : fx_F} (hc : cn F nn L E) (ho : ontos F L T (2 * L)) (h : Cl k_Tu_haveRing [(2, 45)] F v F') : F' = F ∧ ((v = (0, 1) ∧ cyc T) ∨ (v = (0, 0) ∧ ¬ cyc T)) := by
  obtain ⟨n, h⟩ := c_Tu_haveRing h
  obtain ⟨m, hm, hR⟩ := q_Tu_haveRing_0 h
  have hL := hN.2.1
  have inner : ∀ (n : Nat) (x c g k x0 : Nat), Rn n k_Tu_haveRing 33 [(2, 45), (1, x), (3, 0), (0, g), (0, k), (0, c)] [] F v F' → c ≤ 2 * L → k ≤ 40 → hrC L T x → cnt (fun i => x.testBit i) (2 * L) ≤ cnt (fun i => x0.testBit i) (2 * L) → (g = 0 → ∀ c', c' < c → x.testBit c' = true → ∃ d, x.testBit d = true ∧ T c' d) → (g ≠ 0 → cnt (fun i => x.testBit i) (2 * L) + 1 ≤ cnt (fun i => x0.testBit i) (2 * L)) → ∃ m x' g', m < n ∧ Rn m k_Tu_haveRing 17 [(2, 45), (1, x'), (3, 0), (0, g'), (0, k + 1), (3, 0)] [] F v F' ∧ hrC L T x' ∧ (g' = 0 → clo T (fun c => x'.testBit c = true)) ∧ (g' ≠ 0 → cnt (fun i => x'.testBit i) (2 * L) + 1 ≤ cnt (fun i => x0.testBit i) (2 * L)) := by
    intro n
    induction n using Nat.strongRecOn with
    | ind n ih =>
      intro x c g k x0 h hcL hk hC hle h0 h1
      have q := q_Tu_haveRing_33 h
      have hx2 := p40 hL hC.1
      rw [hc.2.1, b_mul (by omega)] at q
      rcases Nat.lt_or_ge c (2 * L) with hl | hl
      · replace q := q.2 (by rw [b_lt (by omega) (by omega)]; exact hl)
        have hF := p40 hL (tb_lt (fun i hi => (hT _ _ ((ho c hl i).mp hi)).2))
        rw [b_add (show c + 1 < 4294967296 by omega)] at q
        have jb : rx_f_lcmp (rx_j_and (rx_j_shr x c) 1) 1 = 0 ↔ x.testBit c = true := j_bit (by omega) (by omega)
        have jz : rx_f_lcmp (rx_j_and (F 47 c) x) 0 = 0 ↔ F 47 c &&& x = 0 := by
          rw [j_and (by omega) (by omega)]
          exact j_zero (Nat.lt_of_le_of_lt Nat.and_le_left (by omega))
        have nxt : ∀ m : Nat, m < n → (∃ m2 x2 g2, m2 < m ∧ Rn m2 k_Tu_haveRing 17 [(2, 45), (1, x2), (3, 0), (0, g2), (0, k + 1), (3, 0)] [] F v F' ∧ hrC L T x2 ∧ (g2 = 0 → clo T (fun c => x2.testBit c = true)) ∧ (g2 ≠ 0 → cnt (fun i => x2.testBit i) (2 * L) + 1 ≤ cnt (fun i => x0.testBit i) (2 * L))) → ∃ m2 x2 g2, m2 < n ∧ Rn m2 k_Tu_haveRing 17 [(2, 45), (1, x2), (3, 0), (0, g2), (0, k + 1), (3, 0)] [] F v F' ∧ hrC L T x2 ∧ (g2 = 0 → clo T (fun c => x2.testBit c = true)) ∧ (g2 ≠ 0 → cnt (fun i => x2.testBit i) (2 * L) + 1 ≤ cnt (fun i => x0.testBit i) (2 * L)) := by
          rintro m hm ⟨m2, x2, g2, z1, z2⟩
          exact ⟨m2, x2, g2, by omega, z2⟩
        by_cases hb : x.testBit c = true
        · replace q := q.2 (jb.mpr hb)
          by_cases hz : F 47 c &&& x = 0
          · -- c leads nowhere
            obtain ⟨m, hm, hR⟩ := q.2 (jz.mpr hz)
            have nod : ∀ d, x.testBit d = true → ¬ T c d := by
              intro d hd hT2
              have : (F 47 c &&& x).testBit d = true := by rw [Nat.testBit_and, (ho c hl d).mpr hT2, hd]; rfl
              rw [hz, Nat.zero_testBit] at this
              cases this
            have hsh : rx_j_shl 1 c < 18446744073709551616 := by
              rw [j_shl1 (by omega)]
              exact (show 2 ^ c < 2 ^ 64 from Nat.pow_lt_pow_right (by decide) (by omega))
            obtain ⟨l1, l2⟩ := j_less (x := x) (y := rx_j_shl 1 c) (by omega) hsh
            have l3 : ∀ i, (rx_j_and x (rx_j_xor (rx_j_shl 1 c) 18446744073709551615)).testBit i = (x.testBit i && !(decide (c = i))) := by
              intro i
              rw [l2 i, j_shl1 (by omega), Nat.testBit_two_pow]
            have hless : cnt (fun i => (rx_j_and x (rx_j_xor (rx_j_shl 1 c) 18446744073709551615)).testBit i) (2 * L) + 1 ≤ cnt (fun i => x.testBit i) (2 * L) := by
              refine cnt_less hl (fun i _ hi => ?_) hb ?_
              · replace hi : (rx_j_and x (rx_j_xor (rx_j_shl 1 c) 18446744073709551615)).testBit i = true := hi
                rw [l3 i, Bool.and_eq_true] at hi
                exact hi.1
              · show (rx_j_and x (rx_j_xor (rx_j_shl 1 c) 18446744073709551615)).testBit c = false
                rw [l3 c, decide_eq_true rfl, hb]
                rfl
            refine nxt m hm (ih m hm _ (c + 1) 1 k x0 hR (by omega) hk ⟨Nat.lt_of_le_of_lt l1 hC.1, fun S hS1 hS2 c' hc' => ?_⟩ (by omega) (fun z => by cases z) (fun _ => by omega))
            rw [l3 c', hC.2 S hS1 hS2 c' hc', Bool.true_and]
            by_cases e : c = c'
            · subst e
              obtain ⟨d, d1, d2⟩ := hS2 c hc'
              exact absurd d2 (nod d (hC.2 S hS1 hS2 d d1))
            · rw [decide_eq_false e]
              rfl
          · obtain ⟨m, hm, hR⟩ := q.1 (fun z => hz (jz.mp z))
            refine nxt m hm (ih m hm x (c + 1) g k x0 hR (by omega) hk hC hle (fun z c' hc' hb' => ?_) h1)
            by_cases e : c' = c
            · subst e
              by_cases hx : ∃ d, (F 47 c' &&& x).testBit d = true
              · obtain ⟨d, hd⟩ := hx
                rw [Nat.testBit_and, Bool.and_eq_true] at hd
                exact ⟨d, hd.2, (ho c' hl d).mp hd.1⟩
              · refine absurd (tb_ext (fun i => ?_)) hz
                rw [Nat.zero_testBit]
                cases hq : (F 47 c' &&& x).testBit i with
                | false => rfl
                | true => exact absurd ⟨i, hq⟩ hx
            · exact h0 z c' (by omega) hb'
        · obtain ⟨m, hm, hR⟩ := q.1 (fun z => hb (jb.mp z))
          refine nxt m hm (ih m hm x (c + 1) g k x0 hR (by omega) hk hC hle (fun z c' hc' hb' => ?_) h1)
          by_cases e : c' = c
          · subst e; exact absurd hb' hb
          · exact h0 z c' (by omega) hb'
      · obtain ⟨m, hm, hR⟩ := q.1 (by rw [b_le (by omega) (by omega)]; exact hl)
        rw [b_add (show k + 1 < 4294967296 by omega)] at hR
        refine ⟨m, x, g, hm, hR, hC, fun z c' hc' => ?_, h1⟩
        have : c' < 2 * L := by
          rcases Nat.lt_or_ge c' (2 * L) with z2 | z2
          · exact z2
          · replace hc' : x.testBit c' = true := hc'
            rw [tb_out hC.1 z2] at hc'; cases hc'
        exact h0 z c' (by omega) hc'
  have outer : ∀ (n : Nat) (x g k : Nat), Rn n k_Tu_haveRing 17 [(2, 45), (1, x), (3, 0), (0, g), (0, k), (3, 0)] [] F v F' → k ≤ 41 → hrC L T x → (g = 0 → clo T (fun c => x.testBit c = true)) → (g ≠ 0 → cnt (fun i => x.testBit i) (2 * L) + k ≤ 2 * L) → F' = F ∧ ((v = (0, 1) ∧ cyc T) ∨ (v = (0, 0) ∧ ¬ cyc T)) := by
    intro n
    induction n using Nat.strongRecOn with
    | ind n ih =>
      intro x g k h hk hC h0 h1
      have q := q_Tu_haveRing_17 h
      have hx2 := p40 hL hC.1
      have jz : rx_f_lcmp x 0 = 0 ↔ x = 0 := j_zero (by omega)
      have fin : clo T (fun c => x.testBit c = true) → ((rx_f_lcmp x 0 = 0 → v = (0, 0) ∧ F' = F) ∧ (rx_f_lcmp x 0 ≠ 0 → v = (0, 1) ∧ F' = F)) → F' = F ∧ ((v = (0, 1) ∧ cyc T) ∨ (v = (0, 0) ∧ ¬ cyc T)) := by
        intro hcl qq
        by_cases hx : x = 0
        · obtain ⟨e1, e2⟩ := qq.1 (jz.mpr hx)
          refine ⟨e2, Or.inr ⟨e1, fun z => ?_⟩⟩
          obtain ⟨S, s1, c, s2⟩ := clo_of_cyc z
          have := hC.2 S (fun c hc => by obtain ⟨d, _, hd⟩ := s1 c hc; exact (hT _ _ hd).1) s1 c s2
          rw [hx, Nat.zero_testBit] at this
          cases this
        · obtain ⟨e1, e2⟩ := qq.2 (fun z => hx (jz.mp z))
          refine ⟨e2, Or.inl ⟨e1, ?_⟩⟩
          have : ∃ c, x.testBit c = true := by
            by_cases hy : ∃ c, x.testBit c = true
            · exact hy
            · refine absurd (tb_ext (fun i => ?_)) hx
              rw [Nat.zero_testBit]
              cases hq : x.testBit i with
              | false => rfl
              | true => exact absurd ⟨i, hq⟩ hy
          obtain ⟨c, hc⟩ := this
          exact cyc_of_clo (M := 2 * L) hcl (fun c hc => by obtain ⟨d, _, hd⟩ := hcl c hc; exact (hT _ _ hd).1) hc
      rcases Nat.lt_or_ge 40 k with hk2 | hk2
      · have hg : g = 0 := by
          by_cases hg : g = 0
          · exact hg
          · have := h1 hg; omega
        exact fin (h0 hg) (q.1 (by rw [b_lt (by omega) (by omega)]; exact hk2))
      · replace q := q.2 (by rw [b_le (by omega) (by omega)]; exact hk2)
        by_cases hg : g = 0
        · exact fin (h0 hg) (q.1 hg)
        · obtain ⟨m, hm, hR⟩ := q.2 hg
          obtain ⟨m2, x', g', z1, z2, z3, z4, z5⟩ := inner m x 0 0 k x hR (Nat.zero_le _) hk2 hC (Nat.le_refl _) (fun _ c' hc' => absurd hc' (Nat.not_lt_zero _)) (fun z => absurd rfl z)
          exact ih m2 (by omega) x' g' (k + 1) z2 (by omega) z3 z4 (fun z => by have := z5 z; have := h1 hg; omega)
  rw [hc.2.1, b_mul (by omega), j_full (by omega)] at hR
  have hfull : ∀ i, (2 ^ (2 * L) - 1).testBit i = decide (i < 2 * L) := fun i => Nat.testBit_two_pow_sub_one (2 * L) i
  refine outer m _ 1 0 hR (by omega) ⟨by have := Nat.two_pow_pos (2 * L); omega, fun S hS1 hS2 c hc => ?_⟩ (fun z => by cases z) (fun _ => by have := cnt_le (fun i => (2 ^ (2 * L) - 1).testBit i) (2 * L); omega)
  rw [hfull c, decide_eq_true (hS1 c hc)]
end HR
end
section
/-- the upper end of a link -/
def ue (E : Nat → Nat) (u : Nat → Bool) (l : Nat) : Nat := if u l then E (2 * l + 1) else E (2 * l)
section MT
variable {nn L : Nat} {E : Nat → Nat} {st u : Nat → Bool} {v : fx_V} {F' : fx_F} {T : Nat → Nat → Prop}
theorem isup_ue (hN : nt_ok nn L E) {c : Nat} (hc : c < 2 * L) : E (nf c) = ue E u (c / 2) ↔ isup u c = true := by
  have hne := (hN.2.2 c hc).2
  unfold isup ue
  rcases Nat.mod_two_eq_zero_or_one c with z | z
  · have e1 : nf c = c + 1 := by unfold nf; rw [if_pos z]
    have e2 : 2 * (c / 2) = c := by omega
    rw [e1] at hne
    rw [if_pos z, e1, e2]
    cases hb : u (c / 2) with
    | true => rw [if_pos rfl]; exact ⟨fun _ => rfl, fun _ => rfl⟩
    | false => rw [if_neg (by decide)]; exact ⟨fun q => absurd q.symm hne, fun q => by cases q⟩
  · have e1 : nf c = c - 1 := by unfold nf; rw [if_neg (by omega)]
    have e2 : 2 * (c / 2) = c - 1 := by omega
    have e3 : c - 1 + 1 = c := by omega
    rw [e1] at hne
    rw [if_neg (show ¬ c % 2 = 0 by omega), e1, e2, e3]
    cases hb : u (c / 2) with
    | true => rw [if_pos rfl]; exact ⟨fun q => absurd q.symm hne, fun q => by cases q⟩
    | false => rw [if_neg (by decide)]; exact ⟨fun _ => rfl, fun _ => rfl⟩
theorem s_isTurn (hN : nt_ok nn L E) {c d a3 a4 : Nat} (hc : c < 2 * L) (hd : d < 2 * L) {F : fx_F} (hm : mn F nn L E) (hst : ∀ l, l < L → st l = mst F l) (h3 : a3 = ue E u (c / 2)) (h4 : a4 = ue E u (d / 2)) (h : Cl k_M_isTurn [(2, 175), (0, c), (0, d), (0, a3), (0, a4)] F v F') : F' = F ∧ ((v = (0, 1) ∧ trn L E st u c d) ∨ (v = (0, 0) ∧ ¬ trn L E st u c d)) := by
  obtain ⟨n, h⟩ := c_M_isTurn h
  have q := q_M_isTurn_0 h
  have hL := hN.2.1
  rw [mTo hm hL hc, mTo hm hL hd, mFr hm hL hd, b_div (show c < 2147483648 by omega) (by decide) (by decide), b_div (show d < 2147483648 by omega) (by decide) (by decide), b_add0 (show c / 2 < 4294967296 by omega), b_add0 (show d / 2 < 4294967296 by omega), h3, h4] at q
  have sc : st (c / 2) = true ↔ F 176 (c / 2) = 1 := by rw [hst _ (by omega)]; exact rx_beq
  have sd : st (d / 2) = true ↔ F 176 (d / 2) = 1 := by rw [hst _ (by omega)]; exact rx_beq
  have no : ¬ trn L E st u c d → v = (0, 0) ∧ F' = F → F' = F ∧ ((v = (0, 1) ∧ trn L E st u c d) ∨ (v = (0, 0) ∧ ¬ trn L E st u c d)) := fun z ⟨e1, e2⟩ => ⟨e2, Or.inr ⟨e1, z⟩⟩
  have yes : trn L E st u c d → v = (0, 1) ∧ F' = F → F' = F ∧ ((v = (0, 1) ∧ trn L E st u c d) ∨ (v = (0, 0) ∧ ¬ trn L E st u c d)) := fun z ⟨e1, e2⟩ => ⟨e2, Or.inl ⟨e1, z⟩⟩
  by_cases g1 : c / 2 = d / 2
  · exact no (fun z => z.2.2.1 g1) (q.1 g1)
  replace q := q.2 g1
  by_cases g2 : F 176 (c / 2) = 1
  · replace q := q.2 g2
    by_cases g3 : F 176 (d / 2) = 1
    · replace q := q.2 g3
      by_cases g4 : E (nf c) = E d
      · replace q := q.1 g4
        by_cases g5 : E (nf c) = ue E u (c / 2)
        · exact yes ⟨hc, hd, g1, sc.mpr g2, sd.mpr g3, g4, Or.inl ((isup_ue hN hc).mp g5)⟩ (q.2 g5)
        · replace q := q.1 g5
          by_cases g6 : E (nf d) = ue E u (d / 2)
          · refine no (fun z => ?_) (q.2 g6)
            rcases z.2.2.2.2.2.2 with z | z
            · exact g5 ((isup_ue hN hc).mpr z)
            · rw [(isup_ue hN hd).mp g6] at z; cases z
          · refine yes ⟨hc, hd, g1, sc.mpr g2, sd.mpr g3, g4, Or.inr ?_⟩ (q.1 g6)
            cases hq : isup u d with
            | false => rfl
            | true => exact absurd ((isup_ue hN hd).mpr hq) g6
      · exact no (fun z => g4 z.2.2.2.2.2.1) (q.2 g4)
    · exact no (fun z => g3 (sd.mp z.2.2.2.2.1)) (q.1 g3)
  · exact no (fun z => g2 (sc.mp z.2.2.2.1)) (q.1 g2)
/-- the rules, as the reference tells them -/
def mur (F : fx_F) (L : Nat) (E : Nat → Nat) (u : Nat → Bool) : Prop := ∀ l, l < L → F 176 (20 + l) = ue E u l
theorem s_isLawful (hN : nt_ok nn L E) {c d : Nat} (hc : c < 2 * L) (hd : d < 2 * L) {F : fx_F} (hm : mn F nn L E) (hst : ∀ l, l < L → st l = mst F l) (hu : mur F L E u) (h : Cl k_M_isLawful [(2, 175), (0, c), (0, d)] F v F') : F' = F ∧ ((v = (0, 1) ∧ trn L E st u c d) ∨ (v = (0, 0) ∧ ¬ trn L E st u c d)) := by
  obtain ⟨n, h⟩ := c_M_isLawful h
  obtain ⟨n1, F1, c1, e1, e2⟩ := q_M_isLawful_0 h
  have hL := hN.2.1
  rw [b_div (show c < 2147483648 by omega) (by decide) (by decide), b_div (show d < 2147483648 by omega) (by decide) (by decide), b_add (show 20 + c / 2 < 4294967296 by omega), b_add (show 20 + d / 2 < 4294967296 by omega)] at c1
  obtain ⟨a1, a2⟩ := s_isTurn (u := u) (st := st) hN hc hd hm hst (hu _ (by omega)) (hu _ (by omega)) c1
  subst a1
  subst e2
  rw [e1]
  exact ⟨rfl, a2⟩
/-- the rules with all taken turned over -/
def mix (F : fx_F) (u w : Nat → Bool) (l : Nat) : Bool := if F 202 l = 0 then u l else w l
theorem s_isEither {w : Nat → Bool} (hN : nt_ok nn L E) {c d : Nat} (hc : c < 2 * L) (hd : d < 2 * L) {F : fx_F} (hm : mn F nn L E) (hst : ∀ l, l < L → st l = mst F l) (hu : mur F L E u) (hw : ∀ l, l < L → F 190 l = ue E w l) (h : Cl k_M_isEither [(2, 175), (0, c), (0, d)] F v F') : F' = F ∧ ((v = (0, 1) ∧ (trn L E st u c d ∨ trn L E st (mix F u w) c d)) ∨ (v = (0, 0) ∧ ¬ (trn L E st u c d ∨ trn L E st (mix F u w) c d))) := by
  obtain ⟨n, h⟩ := c_M_isEither h
  have q := q_M_isEither_0 h
  have hL := hN.2.1
  rw [b_div (show c < 2147483648 by omega) (by decide) (by decide), b_div (show d < 2147483648 by omega) (by decide) (by decide), b_add (show 20 + c / 2 < 4294967296 by omega), b_add (show 20 + d / 2 < 4294967296 by omega)] at q
  have m0 : ∀ l, l < L → F 202 l = 0 → F 176 (20 + l) = ue E (mix F u w) l := fun l hl z => by
    rw [hu l hl]; unfold ue mix; rw [if_pos z]
  have m1 : ∀ l, l < L → F 202 l ≠ 0 → F 190 l = ue E (mix F u w) l := fun l hl z => by
    rw [hw l hl]; unfold ue mix; rw [if_neg z]
  have key : ∀ a3 a4, a3 = ue E (mix F u w) (c / 2) → a4 = ue E (mix F u w) (d / 2) → (∃ (n1 : Nat) (F1 : fx_F), Cl k_M_isLawful [(2, 175), (0, c), (0, d)] F (0, n1) F1 ∧ (n1 ≠ 0 → v = (0, 1) ∧ F' = F1) ∧ (n1 = 0 → ∃ (n2 : Nat) (F2 : fx_F), Cl k_M_isTurn [(2, 175), (0, c), (0, d), (0, a3), (0, a4)] F1 (0, n2) F2 ∧ (n2 = 0 → v = (0, 0) ∧ F' = F2) ∧ (n2 ≠ 0 → v = (0, 1) ∧ F' = F2))) → F' = F ∧ ((v = (0, 1) ∧ (trn L E st u c d ∨ trn L E st (mix F u w) c d)) ∨ (v = (0, 0) ∧ ¬ (trn L E st u c d ∨ trn L E st (mix F u w) c d))) := by
    rintro a3 a4 h3 h4 ⟨n1, F1, c1, q1, q2⟩
    obtain ⟨a1, a2⟩ := s_isLawful hN hc hd hm hst hu c1
    subst a1
    rcases a2 with ⟨e, t⟩ | ⟨e, t⟩
    · cases e
      obtain ⟨e1, e2⟩ := q1 (by decide)
      exact ⟨e2, Or.inl ⟨e1, Or.inl t⟩⟩
    · cases e
      obtain ⟨n2, F2, c2, q3, q4⟩ := q2 rfl
      obtain ⟨b1, b2⟩ := s_isTurn (st := st) hN hc hd hm hst h3 h4 c2
      subst b1
      rcases b2 with ⟨e, t2⟩ | ⟨e, t2⟩
      · cases e
        obtain ⟨e1, e2⟩ := q4 (by decide)
        exact ⟨e2, Or.inl ⟨e1, Or.inr t2⟩⟩
      · cases e
        obtain ⟨e1, e2⟩ := q3 rfl
        exact ⟨e2, Or.inr ⟨e1, fun z => z.elim t t2⟩⟩
  by_cases g1 : F 202 (c / 2) = 0
  · replace q := q.1 g1
    by_cases g2 : F 202 (d / 2) = 0
    · exact key _ _ (m0 _ (by omega) g1) (m0 _ (by omega) g2) (q.1 g2)
    · exact key _ _ (m0 _ (by omega) g1) (m1 _ (by omega) g2) (q.2 g2)
  · replace q := q.2 g1
    by_cases g2 : F 202 (d / 2) = 0
    · exact key _ _ (m1 _ (by omega) g1) (m0 _ (by omega) g2) (q.1 g2)
    · exact key _ _ (m1 _ (by omega) g1) (m1 _ (by omega) g2) (q.2 g2)
theorem pth_last : ∀ {k a b : Nat}, pth T (k + 1) a b → ∃ d, pth T k a d ∧ T d b
  | 0, a, b, ⟨d, h1, h2⟩ => ⟨a, rfl, by rw [← show d = b from h2]; exact h1⟩
  | k + 1, a, b, ⟨d, h1, h2⟩ => by
    obtain ⟨e, h3, h4⟩ := pth_last h2
    exact ⟨e, ⟨d, h1, h3⟩, h4⟩
/-- how far d is from c, 1 or more -/
def pm (T : Nat → Nat → Prop) (k c d : Nat) : Prop := pth T k c d ∧ ∀ j, 1 ≤ j → j < k → ¬ pth T j c d
theorem pm_down {c d : Nat} : ∀ {j k : Nat}, 1 ≤ k → k ≤ j → pm T j c d → ∃ e, pm T k c e := by
  intro j
  induction j generalizing d with
  | zero => intro k h1 h2; omega
  | succ j ih =>
    intro k h1 h2 h
    rcases Nat.lt_or_ge j k with z | z
    · have : k = j + 1 := by omega
      subst this
      exact ⟨d, h⟩
    · obtain ⟨e, h3, h4⟩ := pth_last h.1
      refine ih h1 z (d := e) ⟨h3, fun i hi1 hi2 hp => ?_⟩
      exact h.2 (i + 1) (by omega) (by omega) (pth_snoc hp h4)
theorem pm_ex {c d : Nat} {k : Nat} (h : pth T (k + 1) c d) : ∃ j, 1 ≤ j ∧ j ≤ k + 1 ∧ pm T j c d := by
  induction k using Nat.strongRecOn with
  | ind k ih =>
    by_cases hx : ∃ j, 1 ≤ j ∧ j < k + 1 ∧ pth T j c d
    · obtain ⟨j, h1, h2, h3⟩ := hx
      obtain ⟨i, i1, i2, i3⟩ := ih (j - 1) (by omega) (by rw [show j - 1 + 1 = j by omega]; exact h3)
      exact ⟨i, i1, by omega, i3⟩
    · exact ⟨k + 1, by omega, Nat.le_refl _, h, fun j h1 h2 h3 => hx ⟨j, h1, h2, h3⟩⟩
/-- the turns, as bits -/
def mtn (F : fx_F) (L : Nat) (T : Nat → Nat → Prop) (k : Nat) : Prop := ∀ c, c < k → ∀ j, (F 192 c).testBit j = true ↔ T c j
/-- of a ring through c the length -/
theorem s_roundOf (hN : nt_ok nn L E) (hT : ∀ c d, T c d → c < 2 * L ∧ d < 2 * L) {F : fx_F} (hm : mn F nn L E) {c : Nat} (hc : c < 2 * L) (ht : mtn F L T (2 * L)) (h : Cl k_M_roundOf [(2, 175), (0, c)] F v F') : F' = F ∧ ((∃ k, 1 ≤ k ∧ k ≤ 41 ∧ pm T k c c ∧ v = (0, k)) ∨ ((∀ k, ¬ pth T (k + 1) c c) ∧ v = (0, 4294967295))) := by
  obtain ⟨n, h⟩ := c_M_roundOf h
  obtain ⟨m, hm2, hR⟩ := q_M_roundOf_0 h
  have hL := hN.2.1
  have hF : ∀ d, d < 2 * L → F 192 d < 2 ^ (2 * L) := fun d hd => tb_lt (fun i hi => (hT _ _ ((ht d hd i).mp hi)).2)
  have inner : ∀ (n seen now k more d : Nat), Rn n k_M_roundOf 45 [(2, 175), (0, c), (1, seen), (3, 0), (1, now), (3, 0), (0, k), (1, more), (3, 0), (0, d)] [] F v F' → d ≤ 2 * L → seen < 2 ^ (2 * L) → now < 2 ^ (2 * L) → k < 100 → (∀ e, more.testBit e = true ↔ ∃ i, i < d ∧ now.testBit i = true ∧ T i e) → ∃ m more', m < n ∧ Rn m k_M_roundOf 13 [(2, 175), (0, c), (1, seen), (3, 0), (1, rx_j_and more' (rx_j_xor seen 18446744073709551615)), (3, 0), (0, k + 1), (3, 0), (3, 0), (3, 0)] [] F v F' ∧ more' < 2 ^ (2 * L) ∧ ∀ e, more'.testBit e = true ↔ ∃ i, now.testBit i = true ∧ T i e := by
    intro n
    induction n using Nat.strongRecOn with
    | ind n ih =>
      intro seen now k more d h hd hs hnw hk hI
      have q := q_M_roundOf_45 h
      have hs2 := p40 hL hs
      have hn2 := p40 hL hnw
      have hmb : more < 2 ^ (2 * L) := tb_lt (fun i hi => by obtain ⟨j, _, _, h3⟩ := (hI i).mp hi; exact (hT _ _ h3).2)
      have hm3 := p40 hL hmb
      rw [hm.2.2.1, b_mul (by omega)] at q
      rcases Nat.lt_or_ge d (2 * L) with hl | hl
      · replace q := q.2 (by rw [b_lt (by omega) (by omega)]; exact hl)
        rw [b_add (show d + 1 < 4294967296 by omega)] at q
        have jb : rx_f_lcmp (rx_j_and (rx_j_shr now d) 1) 1 = 0 ↔ now.testBit d = true := j_bit (by omega) (by omega)
        by_cases hb : now.testBit d = true
        · obtain ⟨m, hm2, hR⟩ := q.2 (jb.mpr hb)
          have hFd := p40 hL (hF d hl)
          rw [j_or (by omega) (by omega)] at hR
          obtain ⟨m', mo, r1, r2⟩ := ih m hm2 seen now k _ (d + 1) hR (by omega) hs hnw hk (fun e => by
            rw [Nat.testBit_or, Bool.or_eq_true, hI e, ht d hl e]
            constructor
            · rintro (⟨i, h1, h2, h3⟩ | h1)
              · exact ⟨i, by omega, h2, h3⟩
              · exact ⟨d, by omega, hb, h1⟩
            · rintro ⟨i, h1, h2, h3⟩
              by_cases e2 : i = d
              · subst e2; exact Or.inr h3
              · exact Or.inl ⟨i, by omega, h2, h3⟩)
          exact ⟨m', mo, by omega, r2⟩
        · obtain ⟨m, hm2, hR⟩ := q.1 (fun z => hb (jb.mp z))
          obtain ⟨m', mo, r1, r2⟩ := ih m hm2 seen now k more (d + 1) hR (by omega) hs hnw hk (fun e => by
            rw [hI e]
            constructor
            · rintro ⟨i, h1, h2, h3⟩
              exact ⟨i, by omega, h2, h3⟩
            · rintro ⟨i, h1, h2, h3⟩
              by_cases e2 : i = d
              · subst e2; exact absurd h2 hb
              · exact ⟨i, by omega, h2, h3⟩)
          exact ⟨m', mo, by omega, r2⟩
      · obtain ⟨m, hm2, hR⟩ := q.1 (by rw [b_le (by omega) (by omega)]; exact hl)
        rw [b_add (show k + 1 < 4294967296 by omega)] at hR
        refine ⟨m, more, hm2, hR, hmb, fun e => ?_⟩
        rw [hI e]
        constructor
        · rintro ⟨i, h1, h2, h3⟩; exact ⟨i, h2, h3⟩
        · rintro ⟨i, h2, h3⟩; exact ⟨i, by have := (hT _ _ h3).1; omega, h2, h3⟩
  have outer : ∀ (n seen now k : Nat), Rn n k_M_roundOf 13 [(2, 175), (0, c), (1, seen), (3, 0), (1, now), (3, 0), (0, k), (3, 0), (3, 0), (3, 0)] [] F v F' → 1 ≤ k → seen < 2 ^ (2 * L) → (∀ d, now.testBit d = true ↔ pm T k c d) → (∀ d, seen.testBit d = true ↔ ∃ j, 1 ≤ j ∧ j < k ∧ pth T j c d) → (∀ j, 1 ≤ j → j < k → ¬ pth T j c c) → k - 1 ≤ cnt (fun i => seen.testBit i) (2 * L) → F' = F ∧ ((∃ k, 1 ≤ k ∧ k ≤ 41 ∧ pm T k c c ∧ v = (0, k)) ∨ ((∀ k, ¬ pth T (k + 1) c c) ∧ v = (0, 4294967295))) := by
    intro n
    induction n using Nat.strongRecOn with
    | ind n ih =>
      intro seen now k h hk hs hA hB hC hD
      have hcn := cnt_le (fun i => seen.testBit i) (2 * L)
      have hs2 := p40 hL hs
      have hnb : now < 2 ^ (2 * L) := tb_lt (fun i hi => by
        have h1 := ((hA i).mp hi).1
        rw [show k = k - 1 + 1 by omega] at h1
        obtain ⟨e, _, h3⟩ := pth_last h1
        exact (hT _ _ h3).2)
      have hn2 := p40 hL hnb
      have jz : rx_f_lcmp now 0 = 0 ↔ now = 0 := j_zero (by omega)
      have jb : rx_f_lcmp (rx_j_and (rx_j_shr now c) 1) 1 = 0 ↔ now.testBit c = true := j_bit (by omega) (by omega)
      have q := q_M_roundOf_13 h
      by_cases hz : now = 0
      · obtain ⟨e1, e2⟩ := q.1 (jz.mpr hz)
        refine ⟨e2, Or.inr ⟨fun i hp => ?_, e1⟩⟩
        obtain ⟨j, j1, j2, j3⟩ := pm_ex hp
        clear q
        rcases Nat.lt_or_ge j k with z | z
        · exact hC j j1 z j3.1
        · obtain ⟨e, he⟩ := pm_down hk z j3
          have := (hA e).mpr he
          rw [hz, Nat.zero_testBit] at this
          cases this
      · replace q := q.2 (fun z => hz (jz.mp z))
        by_cases hb : now.testBit c = true
        · obtain ⟨e1, e2⟩ := q.2 (jb.mpr hb)
          clear q
          exact ⟨e2, Or.inl ⟨k, hk, by omega, (hA c).mp hb, e1⟩⟩
        · obtain ⟨m, hm2, hR⟩ := q.1 (fun z => hb (jb.mp z))
          clear q
          rw [j_or (by omega) (by omega)] at hR
          have hsn : seen ||| now < 2 ^ (2 * L) := Nat.or_lt_two_pow hs hnb
          have hsn2 := p40 hL hsn
          obtain ⟨m', mo, r1, r2, r3, r4⟩ := inner m _ now k 0 0 hR (Nat.zero_le _) hsn hnb (by omega) (fun e => by
            rw [Nat.zero_testBit]
            exact ⟨fun z => (by cases z), fun ⟨i, h1, _⟩ => absurd h1 (Nat.not_lt_zero _)⟩)
          have hmo := p40 hL r3
          obtain ⟨l1, l2⟩ := j_less (x := mo) (y := seen ||| now) (by omega) (by omega)
          have hB2 : ∀ d, (seen ||| now).testBit d = true ↔ ∃ j, 1 ≤ j ∧ j < k + 1 ∧ pth T j c d := by
            intro d
            rw [Nat.testBit_or, Bool.or_eq_true, hA d, hB d]
            constructor
            · rintro (⟨j, h1, h2, h3⟩ | h1)
              · exact ⟨j, h1, by omega, h3⟩
              · exact ⟨k, hk, by omega, h1.1⟩
            · rintro ⟨j, h1, h2, h3⟩
              by_cases hx : ∃ j, 1 ≤ j ∧ j < k ∧ pth T j c d
              · exact Or.inl hx
              · have : j = k := by
                  rcases Nat.lt_or_ge j k with z | z
                  · exact absurd ⟨j, h1, z, h3⟩ hx
                  · omega
                subst this
                exact Or.inr ⟨h3, fun i i1 i2 i3 => hx ⟨i, i1, i2, i3⟩⟩
          refine ih m' (by omega) _ _ (k + 1) r2 (by omega) hsn (fun d => ?_) hB2 (fun j h1 h2 h3 => ?_) ?_
          · rw [l2 d, Bool.and_eq_true, r4 d]
            constructor
            · rintro ⟨⟨i, h1, h2⟩, h3⟩
              refine ⟨pth_snoc ((hA i).mp h1).1 h2, fun j j1 j2 j3 => ?_⟩
              rw [(hB2 d).mpr ⟨j, j1, j2, j3⟩] at h3
              cases h3
            · intro hp
              obtain ⟨e, h1, h2⟩ := pth_last hp.1
              refine ⟨⟨e, (hA e).mpr ⟨h1, fun j j1 j2 j3 => hp.2 (j + 1) (by omega) (by omega) (pth_snoc j3 h2)⟩, h2⟩, ?_⟩
              cases hq : (seen ||| now).testBit d with
              | false => rfl
              | true =>
                obtain ⟨j, j1, j2, j3⟩ := (hB2 d).mp hq
                exact absurd j3 (hp.2 j j1 j2)
          · rcases Nat.lt_or_ge j k with z | z
            · exact hC j h1 z h3
            · have : j = k := by omega
              subst this
              exact hb ((hA c).mpr ⟨h3, hC⟩)
          · have hex : ∃ d, now.testBit d = true := by
              by_cases hy : ∃ d, now.testBit d = true
              · exact hy
              · refine absurd (tb_ext (fun i => ?_)) hz
                rw [Nat.zero_testBit]
                cases hq : now.testBit i with
                | false => rfl
                | true => exact absurd ⟨i, hq⟩ hy
            obtain ⟨d, hd⟩ := hex
            have hdl : d < 2 * L := by
              rcases Nat.lt_or_ge d (2 * L) with z | z
              · exact z
              · rw [tb_out hnb z] at hd; cases hd
            have := cnt_less (p := fun i => seen.testBit i) (q := fun i => (seen ||| now).testBit i) (n := 2 * L) (c := d) hdl (fun i _ hi => by
              show (seen ||| now).testBit i = true
              rw [Nat.testBit_or, show seen.testBit i = true from hi]; rfl) (by show (seen ||| now).testBit d = true; rw [Nat.testBit_or, hd, Bool.or_true]) (by
              show seen.testBit d = false
              cases hq : seen.testBit d with
              | false => rfl
              | true =>
                obtain ⟨j, j1, j2, j3⟩ := (hB d).mp hq
                exact absurd j3 (((hA d).mp hd).2 j j1 j2))
            omega
  refine outer m 0 (F 192 c) 1 hR (Nat.le_refl 1) (Nat.two_pow_pos _) (fun d => ?_) (fun d => ?_) (fun j h1 h2 => by omega) (Nat.zero_le _)
  · rw [ht c hc d]
    constructor
    · intro z
      exact ⟨⟨d, z, rfl⟩, fun j h1 h2 => by omega⟩
    · rintro ⟨⟨e, h1, h2⟩, _⟩
      rw [← show e = d from h2]; exact h1
  · rw [Nat.zero_testBit]
    exact ⟨fun z => (by cases z), fun ⟨j, h1, h2, _⟩ => by omega⟩
theorem s_hasRing (hN : nt_ok nn L E) (hT : ∀ c d, T c d → c < 2 * L ∧ d < 2 * L) {F : fx_F} (hm : mn F nn L E) (ht : mtn F L T (2 * L)) (h : Cl k_M_hasRing [(2, 175)] F v F') : F' = F ∧ ((v = (0, 1) ∧ cyc T) ∨ (v = (0, 0) ∧ ¬ cyc T)) := by
  obtain ⟨n, h⟩ := c_M_hasRing h
  obtain ⟨m, hm2, hR⟩ := q_M_hasRing_0 h
  have hL := hN.2.1
  have lp : ∀ (n c : Nat), Rn n k_M_hasRing 2 [(2, 175), (0, c)] [] F v F' → c ≤ 2 * L → (∀ c', c' < c → ∀ k, ¬ pth T (k + 1) c' c') → F' = F ∧ ((v = (0, 1) ∧ cyc T) ∨ (v = (0, 0) ∧ ¬ cyc T)) := by
    intro n
    induction n using Nat.strongRecOn with
    | ind n ih =>
      intro c h hc hI
      have q := q_M_hasRing_2 h
      rw [hm.2.2.1, b_mul (by omega)] at q
      rcases Nat.lt_or_ge c (2 * L) with hl | hl
      · obtain ⟨n1, F1, c1, q1, q2⟩ := q.2 (by rw [b_lt (by omega) (by omega)]; exact hl)
        obtain ⟨a1, a2⟩ := s_roundOf hN hT hm hl ht c1
        subst a1
        rcases a2 with ⟨k, k1, k2, k3, e⟩ | ⟨k1, e⟩
        · cases e
          clear q
          obtain ⟨e1, e2⟩ := q2 (by rw [b_lt (by decide) (by omega)]; omega)
          refine ⟨e2, Or.inl ⟨e1, c, n1 - 1, ?_⟩⟩
          rw [show n1 - 1 + 1 = n1 by omega]
          exact k3.1
        · cases e
          obtain ⟨m, hm2, hR⟩ := q1 (by rw [b_le_m2 (by decide)]; trivial)
          rw [b_add (show c + 1 < 4294967296 by omega)] at hR
          refine ih m hm2 (c + 1) hR (by omega) (fun c' hc' k hp => ?_)
          by_cases e : c' = c
          · subst e; exact k1 k hp
          · exact hI c' (by omega) k hp
      · obtain ⟨e1, e2⟩ := q.1 (by rw [b_le (by omega) (by omega)]; exact hl)
        refine ⟨e2, Or.inr ⟨e1, fun ⟨c', k, hp⟩ => ?_⟩⟩
        have : c' < 2 * L := by
          obtain ⟨d, h1, _⟩ := hp
          exact (hT _ _ h1).1
        exact hI c' (by omega) k hp
  exact lp m 0 hR (Nat.zero_le _) (fun c' hc' => absurd hc' (Nat.not_lt_zero _))
theorem s_isSafe {w : Nat → Bool} (hN : nt_ok nn L E) {F : fx_F} (hm : mn F nn L E) (hst : ∀ l, l < L → st l = mst F l) (hu : mur F L E u) (hw : ∀ l, l < L → F 190 l = ue E w l) (h : Cl k_M_isSafe [(2, 175)] F v F') : fxo [192] F F' ∧ ((v = (0, 0) ∧ cyc (fun c d => trn L E st u c d ∨ trn L E st (mix F u w) c d)) ∨ (v = (0, 1) ∧ ¬ cyc (fun c d => trn L E st u c d ∨ trn L E st (mix F u w) c d))) := by
  obtain ⟨n, h⟩ := c_M_isSafe h
  obtain ⟨m, hm2, hR⟩ := q_M_isSafe_0 h
  have hL := hN.2.1
  have hT : ∀ c d, (trn L E st u c d ∨ trn L E st (mix F u w) c d) → c < 2 * L ∧ d < 2 * L := fun c d z => z.elim (fun z => ⟨z.1, z.2.1⟩) (fun z => ⟨z.1, z.2.1⟩)
  generalize hTT : (fun c d => trn L E st u c d ∨ trn L E st (mix F u w) c d) = T
  have hT1 : ∀ c d, T c d ↔ (trn L E st u c d ∨ trn L E st (mix F u w) c d) := fun c d => by rw [← hTT]
  have hT2 : ∀ c d, T c d → c < 2 * L ∧ d < 2 * L := fun c d z => hT c d ((hT1 c d).mp z)
  -- what stays
  have kp : ∀ F2 : fx_F, fxo [192] F F2 → mn F2 nn L E ∧ (∀ l, l < L → st l = mst F2 l) ∧ mur F2 L E u ∧ (∀ l, l < L → F2 190 l = ue E w l) ∧ mix F2 u w = mix F u w := by
    intro F2 ho
    refine ⟨hm.keep ho (by decide) (by decide) (by decide) (by decide), fun l hl => by rw [hst l hl]; unfold mst; rw [ho 176 _ (by decide)], fun l hl => (ho 176 _ (by decide)).trans (hu l hl), fun l hl => (ho 190 _ (by decide)).trans (hw l hl), funext (fun l => by unfold mix; rw [ho 202 _ (by decide)])⟩
  have inner : ∀ (n : Nat) (F2 : fx_F) (c d : Nat), Rn n k_M_isSafe 19 [(2, 175), (0, c), (0, d)] [] F2 v F' → c < 2 * L → d ≤ 2 * L → fxo [192] F F2 → mtn F2 L T c → (∀ j, (F2 192 c).testBit j = true ↔ j < d ∧ T c j) → ∃ m F3, m < n ∧ Rn m k_M_isSafe 2 [(2, 175), (0, c + 1), (3, 0)] [] F3 v F' ∧ fxo [192] F F3 ∧ mtn F3 L T (c + 1) := by
    intro n
    induction n using Nat.strongRecOn with
    | ind n ih =>
      intro F2 c d h hc hd ho hI hJ
      obtain ⟨km, ks, ku, kw, kx⟩ := kp F2 ho
      have q := q_M_isSafe_19 h
      rw [km.2.2.1, b_mul (by omega)] at q
      rcases Nat.lt_or_ge d (2 * L) with hl | hl
      · obtain ⟨n1, F1, c1, q1, q2⟩ := q.2 (by rw [b_lt (by omega) (by omega)]; exact hl)
        rw [b_add (show d + 1 < 4294967296 by omega)] at q1 q2
        obtain ⟨a1, a2⟩ := s_isEither (st := st) hN hc hl km ks ku kw c1
        subst a1
        rw [kx] at a2
        rcases a2 with ⟨e, t⟩ | ⟨e, t⟩
        · cases e
          obtain ⟨m, hm2, hR⟩ := q2 (by decide)
          have hlt := p40 hL (show F1 192 c < 2 ^ (2 * L) from tb_lt (fun i hi => by have := ((hJ i).mp hi).1; omega))
          rw [j_add1 (by omega) (by omega)] at hR
          obtain ⟨m', F3, r1, r2⟩ := ih m hm2 _ c (d + 1) hR hc (by omega) (ho.wr (by decide)) (fun c' hc' j => by rw [fu_i (by omega)]; exact hI c' hc' j) (fun j => by
            rw [fu_same, tb_or, Bool.or_eq_true, hJ j, decide_eq_true_iff]
            constructor
            · rintro (⟨h1, h2⟩ | h1)
              · exact ⟨by omega, h2⟩
              · subst h1; exact ⟨by omega, (hT1 _ _).mpr t⟩
            · rintro ⟨h1, h2⟩
              by_cases e : j = d
              · exact Or.inr e
              · exact Or.inl ⟨by omega, h2⟩)
          exact ⟨m', F3, by omega, r2⟩
        · cases e
          obtain ⟨m, hm2, hR⟩ := q1 rfl
          obtain ⟨m', F3, r1, r2⟩ := ih m hm2 _ c (d + 1) hR hc (by omega) ho hI (fun j => by
            rw [hJ j]
            constructor
            · rintro ⟨h1, h2⟩; exact ⟨by omega, h2⟩
            · rintro ⟨h1, h2⟩
              refine ⟨?_, h2⟩
              by_cases e : j = d
              · subst e; exact absurd ((hT1 _ _).mp h2) t
              · omega)
          exact ⟨m', F3, by omega, r2⟩
      · obtain ⟨m, hm2, hR⟩ := q.1 (by rw [b_le (by omega) (by omega)]; exact hl)
        rw [b_add (show c + 1 < 4294967296 by omega)] at hR
        refine ⟨m, F2, hm2, hR, ho, fun c' hc' j => ?_⟩
        by_cases e : c' = c
        · subst e
          rw [hJ j]
          exact ⟨fun z => z.2, fun z => ⟨by have := (hT2 _ _ z).2; omega, z⟩⟩
        · exact hI c' (by omega) j
  have outer : ∀ (n : Nat) (F2 : fx_F) (c : Nat), Rn n k_M_isSafe 2 [(2, 175), (0, c), (3, 0)] [] F2 v F' → c ≤ 2 * L → fxo [192] F F2 → mtn F2 L T c → fxo [192] F F' ∧ ((v = (0, 0) ∧ cyc T) ∨ (v = (0, 1) ∧ ¬ cyc T)) := by
    intro n
    induction n using Nat.strongRecOn with
    | ind n ih =>
      intro F2 c h hc ho hI
      obtain ⟨km, ks, ku, kw, kx⟩ := kp F2 ho
      have q := q_M_isSafe_2 h
      rw [km.2.2.1, b_mul (by omega)] at q
      rcases Nat.lt_or_ge c (2 * L) with hl | hl
      · obtain ⟨m, hm2, hR⟩ := q.2 (by rw [b_lt (by omega) (by omega)]; exact hl)
        obtain ⟨m', F3, r1, r2, r3, r4⟩ := inner m _ c 0 hR hl (Nat.zero_le _) (ho.wr (by decide)) (fun c' hc' j => by rw [fu_i (by omega)]; exact hI c' hc' j) (fun j => by
          rw [fu_same, Nat.zero_testBit]
          exact ⟨fun z => (by cases z), fun z => absurd z.1 (Nat.not_lt_zero _)⟩)
        exact ih m' (by omega) F3 (c + 1) r2 (by omega) r3 r4
      · obtain ⟨n1, F1, c1, q1, q2⟩ := q.1 (by rw [b_le (by omega) (by omega)]; exact hl)
        have : c = 2 * L := by omega
        subst this
        obtain ⟨a1, a2⟩ := s_hasRing hN hT2 km hI c1
        subst a1
        rcases a2 with ⟨e, t⟩ | ⟨e, t⟩
        · cases e
          obtain ⟨e1, e2⟩ := q1 (by decide)
          subst e2
          exact ⟨ho, Or.inl ⟨e1, t⟩⟩
        · cases e
          obtain ⟨e1, e2⟩ := q2 rfl
          subst e2
          exact ⟨ho, Or.inr ⟨e1, t⟩⟩
  exact outer m F 0 hR (Nat.zero_le _) fxo.rf (fun c' hc' => absurd hc' (Nat.not_lt_zero _))
end MT
end
section
/-! The plan: which links turn in which phase -/
section PLAN
variable {L : Nat} {E : Nat → Nat} {st : Nat → Bool}
/-- the links' bits -/
def bts (u : Nat) : Nat → Bool := fun l => u.testBit l
theorem trn_congr {st2 u u2 : Nat → Bool} {c d : Nat} (h : ∀ l, l < L → st l = st2 l) (hu : ∀ l, l < L → u l = u2 l) : trn L E st u c d ↔ trn L E st2 u2 c d := by
  unfold trn
  refine ⟨fun ⟨h1, h2, h3, h4, h5, h6, h7⟩ => ⟨h1, h2, h3, ?_, ?_, h6, ?_⟩, fun ⟨h1, h2, h3, h4, h5, h6, h7⟩ => ⟨h1, h2, h3, ?_, ?_, h6, ?_⟩⟩
  · rw [← h _ (by omega)]; exact h4
  · rw [← h _ (by omega)]; exact h5
  · unfold isup at *
    rw [← hu (c / 2) (by omega), ← hu (d / 2) (by omega)]; exact h7
  · rw [h _ (by omega)]; exact h4
  · rw [h _ (by omega)]; exact h5
  · unfold isup at *
    rw [hu (c / 2) (by omega), hu (d / 2) (by omega)]; exact h7
theorem cyc_congr {T T2 : Nat → Nat → Prop} (h : ∀ c d, T c d ↔ T2 c d) : cyc T ↔ cyc T2 := by
  have : T = T2 := funext (fun c => funext (fun d => propext (h c d)))
  rw [this]
/-- the turns by the rules u and with the links m turned over have a ring -/
def unsf (L : Nat) (E : Nat → Nat) (st : Nat → Bool) (u m : Nat) : Prop := cyc (fun c d => trn L E st (bts u) c d ∨ trn L E st (bts (u ^^^ m)) c d)
/-- the links taken, of the first l, when `left` are left -/
noncomputable def tkl (L : Nat) (E : Nat → Nat) (st : Nat → Bool) (u left : Nat) : Nat → Nat
  | 0 => 0
  | l + 1 => @ite Nat (left.testBit l = true ∧ ¬ unsf L E st u (tkl L E st u left l ||| 2 ^ l)) (Classical.propDecidable _) (tkl L E st u left l ||| 2 ^ l) (tkl L E st u left l)
theorem tkl_y {u left l : Nat} (h : left.testBit l = true) (h2 : ¬ unsf L E st u (tkl L E st u left l ||| 2 ^ l)) : tkl L E st u left (l + 1) = tkl L E st u left l ||| 2 ^ l := if_pos ⟨h, h2⟩
theorem tkl_n {u left l : Nat} (h : left.testBit l = true → unsf L E st u (tkl L E st u left l ||| 2 ^ l)) : tkl L E st u left (l + 1) = tkl L E st u left l := if_neg (fun z => z.2 (h z.1))
theorem tkl_b {u left : Nat} : ∀ l j, (tkl L E st u left l).testBit j = true → j < l ∧ left.testBit j = true
  | 0, j, h => by
    rw [show tkl L E st u left 0 = 0 from rfl, Nat.zero_testBit] at h
    cases h
  | l + 1, j, h => by
    by_cases h1 : left.testBit l = true ∧ ¬ unsf L E st u (tkl L E st u left l ||| 2 ^ l)
    · rw [tkl_y h1.1 h1.2, tb_or, Bool.or_eq_true] at h
      rcases h with h | h
      · obtain ⟨h2, h3⟩ := tkl_b l j h
        exact ⟨by omega, h3⟩
      · have := of_decide_eq_true h
        subst this
        exact ⟨by omega, h1.1⟩
    · rw [tkl_n (fun z => Classical.byContradiction (fun y => h1 ⟨z, y⟩))] at h
      obtain ⟨h2, h3⟩ := tkl_b l j h
      exact ⟨by omega, h3⟩
theorem tkl_lt {u left l : Nat} : tkl L E st u left l < 2 ^ l := tb_lt (fun i hi => (tkl_b l i hi).1)
/-- the rules behind k phases -/
noncomputable def pu (L : Nat) (E : Nat → Nat) (st : Nat → Bool) (up nw : Nat) : Nat → Nat
  | 0 => up
  | k + 1 => pu L E st up nw k ^^^ tkl L E st (pu L E st up nw k) (pu L E st up nw k ^^^ nw) L
/-- the links of phase k -/
noncomputable def pt (L : Nat) (E : Nat → Nat) (st : Nat → Bool) (up nw k : Nat) : Nat := tkl L E st (pu L E st up nw k) (pu L E st up nw k ^^^ nw) L
variable {up nw : Nat}
theorem pu_s (k : Nat) : pu L E st up nw (k + 1) = pu L E st up nw k ^^^ pt L E st up nw k := rfl
theorem pu_lt (hu : up < 2 ^ L) : ∀ k, pu L E st up nw k < 2 ^ L
  | 0 => hu
  | k + 1 => by
    rw [pu_s]
    exact Nat.xor_lt_two_pow (pu_lt hu k) tkl_lt
theorem pt_b {k j : Nat} (h : (pt L E st up nw k).testBit j = true) : j < L ∧ (pu L E st up nw k ^^^ nw).testBit j = true := tkl_b L j h
theorem pl_b (k j : Nat) : (pu L E st up nw (k + 1) ^^^ nw).testBit j = ((pu L E st up nw k ^^^ nw).testBit j && !((pt L E st up nw k).testBit j)) := by
  rw [pu_s]
  have := @pt_b L E st up nw k j
  rw [Nat.testBit_xor] at *
  rw [Nat.testBit_xor]
  rw [Nat.testBit_xor]
  revert this
  cases (pt L E st up nw k).testBit j <;> cases (pu L E st up nw k).testBit j <;> cases nw.testBit j <;> intro this <;> first | rfl | (have := (this rfl).2; cases this)
theorem xz {x y : Nat} : x ^^^ y = 0 ↔ x = y := by
  constructor
  · intro h
    refine tb_ext (fun i => ?_)
    have : (x ^^^ y).testBit i = false := by rw [h, Nat.zero_testBit]
    rw [Nat.testBit_xor] at this
    revert this
    cases x.testBit i <;> cases y.testBit i <;> intro this <;> first | rfl | cases this
  · intro h
    rw [h, Nat.xor_self]
/-- in a later phase it is not left -/
theorem pl_gone {k l : Nat} (h : (pt L E st up nw k).testBit l = true) : ∀ j, k < j → (pu L E st up nw j ^^^ nw).testBit l = false := by
  intro j
  induction j with
  | zero => intro hj; omega
  | succ j ih =>
    intro hj
    rw [pl_b]
    by_cases e : j = k
    · subst e; rw [h]; simp
    · rw [ih (by omega)]; rfl
theorem pt_once {k l j : Nat} (h : (pt L E st up nw k).testBit l = true) (h2 : (pt L E st up nw j).testBit l = true) : k = j := by
  rcases Nat.lt_trichotomy k j with z | z | z
  · have := (pt_b h2).2; rw [pl_gone h j z] at this; cases this
  · exact z
  · have := (pt_b h).2; rw [pl_gone h2 k z] at this; cases this
/-- k phases, and all is turned -/
def plr (L : Nat) (E : Nat → Nat) (st : Nat → Bool) (up nw k : Nat) : Prop := pu L E st up nw k = nw ∧ ∀ j, j < k → pu L E st up nw j ≠ nw ∧ pt L E st up nw j ≠ 0
/-- no plan -/
def plb (L : Nat) (E : Nat → Nat) (st : Nat → Bool) (up nw : Nat) : Prop := ∃ k, (∀ j, j < k → pt L E st up nw j ≠ 0) ∧ pu L E st up nw k ≠ nw ∧ pt L E st up nw k = 0
theorem pu_stay {k : Nat} (h : pt L E st up nw k = 0) : pu L E st up nw (k + 1) = pu L E st up nw k := by
  rw [pu_s, h, Nat.xor_zero]
theorem plr_fun {k j : Nat} (h : plr L E st up nw k) (h2 : plr L E st up nw j) : k = j := by
  rcases Nat.lt_trichotomy k j with z | z | z
  · exact absurd h.1 (h2.2 k z).1
  · exact z
  · exact absurd h2.1 (h.2 j z).1
theorem pt_end {k : Nat} (h : pu L E st up nw k = nw) : pt L E st up nw k = 0 := by
  refine tb_ext (fun i => ?_)
  rw [Nat.zero_testBit]
  cases hq : (pt L E st up nw k).testBit i with
  | false => rfl
  | true =>
    have := (pt_b hq).2
    rw [h, Nat.xor_self, Nat.zero_testBit] at this
    cases this
theorem plr_plb {k : Nat} (h : plr L E st up nw k) (h2 : plb L E st up nw) : False := by
  obtain ⟨j, j1, j2, j3⟩ := h2
  rcases Nat.lt_trichotomy k j with z | z | z
  · exact j1 k z (pt_end h.1)
  · subst z; exact j2 h.1
  · exact (h.2 j z).2 j3
/-- what is left grows less -/
theorem pl_cnt {k : Nat} (h : ∀ j, j < k → pt L E st up nw j ≠ 0) : cnt (fun l => (pu L E st up nw k ^^^ nw).testBit l) L + k ≤ L := by
  induction k with
  | zero => exact cnt_le _ _
  | succ k ih =>
    have ih := ih (fun j hj => h j (by omega))
    have hne := h k (by omega)
    have : ∃ i, (pt L E st up nw k).testBit i = true := by
      by_cases hx : ∃ i, (pt L E st up nw k).testBit i = true
      · exact hx
      · refine absurd (tb_ext (fun i => ?_)) hne
        rw [Nat.zero_testBit]
        cases hq : (pt L E st up nw k).testBit i with
        | false => rfl
        | true => exact absurd ⟨i, hq⟩ hx
    obtain ⟨i, hi⟩ := this
    have := cnt_less (p := fun l => (pu L E st up nw (k + 1) ^^^ nw).testBit l) (q := fun l => (pu L E st up nw k ^^^ nw).testBit l) (n := L) (c := i) (pt_b hi).1 (fun j _ hj => by
      have hj : (pu L E st up nw (k + 1) ^^^ nw).testBit j = true := hj
      rw [pl_b, Bool.and_eq_true] at hj
      exact hj.1) (pt_b hi).2 (by show (pu L E st up nw (k + 1) ^^^ nw).testBit i = false; rw [pl_b, hi]; simp)
    omega
theorem pl_zero {k : Nat} (hu : up < 2 ^ L) (hn : nw < 2 ^ L) (h : cnt (fun l => (pu L E st up nw k ^^^ nw).testBit l) L = 0) : pu L E st up nw k = nw := by
  refine xz.mp (tb_ext (fun i => ?_))
  rw [Nat.zero_testBit]
  have hb : pu L E st up nw k ^^^ nw < 2 ^ L := Nat.xor_lt_two_pow (pu_lt hu k) hn
  have z : ∀ n, cnt (fun l => (pu L E st up nw k ^^^ nw).testBit l) n = 0 → ∀ i, i < n → (pu L E st up nw k ^^^ nw).testBit i = false := by
    intro n
    induction n with
    | zero => intro _ i hi; omega
    | succ n ih =>
      intro hz i hi
      have hz : cnt (fun l => (pu L E st up nw k ^^^ nw).testBit l) n + (if (pu L E st up nw k ^^^ nw).testBit n then 1 else 0) = 0 := hz
      by_cases e : i = n
      · subst e
        cases hq : (pu L E st up nw k ^^^ nw).testBit i with
        | false => rfl
        | true => rw [hq, if_pos rfl] at hz; omega
      · exact ih (by omega) i (by omega)
  rcases Nat.lt_or_ge i L with hi | hi
  · exact z L h i hi
  · exact tb_out hb hi
theorem b_less {x y : Nat} (hx : x < 4294967296) (hy : y < 4294967296) : ∀ j, (i_and x (i_xor y 4294967295)).testBit j = (x.testBit j && !(y.testBit j)) := by
  rw [b_xor (k := 32) (Nat.le_refl _) hy (by decide), b_and hx]
  intro j
  rw [Nat.testBit_and, Nat.testBit_xor, show (4294967295 : Nat) = 2 ^ 32 - 1 from rfl, Nat.testBit_two_pow_sub_one]
  by_cases hj : j < 32
  · rw [decide_eq_true hj]; simp
  · have h2 : x.testBit j = false := tb_out hx (show 32 ≤ j by omega)
    rw [h2]; rfl
theorem b_less_pl {k : Nat} (hL : L ≤ 20) (hu : up < 2 ^ L) (hn : nw < 2 ^ L) : i_and (pu L E st up nw k ^^^ nw) (i_xor (pt L E st up nw k) 4294967295) = pu L E st up nw (k + 1) ^^^ nw := by
  have h20 : 2 ^ L ≤ 2 ^ 20 := Nat.pow_le_pow_right (by decide) hL
  have h1 : pu L E st up nw k ^^^ nw < 2 ^ L := Nat.xor_lt_two_pow (pu_lt hu k) hn
  have h2 : pt L E st up nw k < 2 ^ L := tkl_lt
  refine tb_ext (fun j => ?_)
  rw [b_less (by omega) (by omega), pl_b]
end PLAN
end
section
/-! The class's plan -/
section CPLAN
variable {nn L : Nat} {E : Nat → Nat} {v : fx_V} {F' : fx_F}
theorem p20 {x : Nat} (hL : L ≤ 20) (h : x < 2 ^ L) : x < 1048576 := Nat.lt_of_lt_of_le h (show 2 ^ L ≤ 2 ^ 20 from Nat.pow_le_pow_right (by decide) hL)
theorem s_takeLinks (hN : nt_ok nn L E) {u left s : Nat} (hu : u < 2 ^ L) (hl : left < 2 ^ L) (hs : s < 2147483648) {F : fx_F} (hc : cn F nn L E) (h : Cl k_Pl_takeLinks [(2, 48), (0, u), (0, left), (0, s)] F v F') : v = (0, tkl L E (bts s) u left L) ∧ fxo [46, 47] F F' := by
  obtain ⟨n, h⟩ := c_Pl_takeLinks h
  obtain ⟨m, hm2, hR⟩ := q_Pl_takeLinks_0 h
  have hL := hN.2.1
  have lp : ∀ (n : Nat) (F : fx_F) (l : Nat), Rn n k_Pl_takeLinks 6 [(2, 48), (0, u), (0, left), (0, s), (0, tkl L E (bts s) u left l), (0, l), (3, 0)] [] F v F' → cn F nn L E → l ≤ L → v = (0, tkl L E (bts s) u left L) ∧ fxo [46, 47] F F' := by
    intro n
    induction n using Nat.strongRecOn with
    | ind n ih =>
      intro F l h hc hle
      have u20 := p20 hL hu
      have l20 := p20 hL hl
      have q := q_Pl_takeLinks_6 h
      rw [hc.2.1, b_bitl (show left < 2147483648 by omega) (show l < 32 by omega)] at q
      rcases Nat.lt_or_ge l L with hlt | hge
      · replace q := q.2 (by rw [b_lt (by omega) (by omega)]; exact hlt)
        rw [b_add (show l + 1 < 4294967296 by omega)] at q
        by_cases hb : left.testBit l = true
        · rw [if_pos hb] at q
          obtain ⟨F1, c1, n2, F2, c2, q1, q2⟩ := q.2 rfl
          clear q
          have hp : 2 ^ l < 2 ^ L := Nat.pow_lt_pow_right (by decide) hlt
          have ht : tkl L E (bts s) u left l < 2 ^ L := Nat.lt_trans tkl_lt hp
          have hmo : tkl L E (bts s) u left l ||| 2 ^ l < 2 ^ L := Nat.or_lt_two_pow ht hp
          have hxo : u ^^^ (tkl L E (bts s) u left l ||| 2 ^ l) < 2 ^ L := Nat.xor_lt_two_pow hu hmo
          have x20 := p20 hL hxo
          rw [b_shl1 (show l < 32 by omega), b_or (k := L) (by omega) ht hp] at c1 q2
          rw [b_xor (k := L) (by omega) hu hmo] at c1
          obtain ⟨a1, a2⟩ := s_take hN (by omega) (by omega) hs hc c1
          have hc1 := hc.keep a1 (by decide) (by decide) (by decide)
          obtain ⟨b1, b2⟩ := s_haveRing hN (T := fun c d => trn L E (bts s) (bts u) c d ∨ trn L E (bts s) (bts (u ^^^ (tkl L E (bts s) u left l ||| 2 ^ l))) c d) (fun c d z => z.elim (fun z => ⟨z.1, z.2.1⟩) (fun z => ⟨z.1, z.2.1⟩)) hc1 a2 c2
          subst b1
          rcases b2 with ⟨e, t⟩ | ⟨e, t⟩
          · cases e
            obtain ⟨m, hm3, hR⟩ := q1 (by decide)
            rw [← tkl_n (fun _ => t)] at hR
            obtain ⟨r1, r2⟩ := ih m hm3 _ (l + 1) hR hc1 (by omega)
            exact ⟨r1, a1.tr r2⟩
          · cases e
            obtain ⟨m, hm3, hR⟩ := q2 rfl
            rw [← tkl_y hb t] at hR
            obtain ⟨r1, r2⟩ := ih m hm3 _ (l + 1) hR hc1 (by omega)
            exact ⟨r1, a1.tr r2⟩
        · rw [if_neg hb] at q
          obtain ⟨m, hm3, hR⟩ := q.1 (by decide)
          clear q
          rw [← tkl_n (fun z => absurd z hb)] at hR
          exact ih m hm3 _ (l + 1) hR hc (by omega)
      · obtain ⟨e1, e2⟩ := q.1 (by rw [b_le (by omega) (by omega)]; exact hge)
        clear q
        have : l = L := by omega
        subst this
        subst e2
        exact ⟨e1, fxo.rf⟩
  exact lp m F 0 hR hc (Nat.zero_le _)
/-- the class's planner holds the plan from up to nw -/
def cpl (F : fx_F) (L : Nat) (E : Nat → Nat) (st : Nat → Bool) (up nw : Nat) : Prop := (∃ k, k ≤ 20 ∧ plr L E st up nw k ∧ F 48 4 = k ∧ ∀ j, j < k → F 49 j = pt L E st up nw j) ∨ (plb L E st up nw ∧ F 48 4 = 4294967294)
theorem s_lay (hN : nt_ok nn L E) {up nw s : Nat} (hu : up < 2 ^ L) (hw : nw < 2 ^ L) (hs : s < 2147483648) {F : fx_F} (hc : cn F nn L E) (hbc : ∀ v F1, Cl k_I_bitCount [(0, up ^^^ nw)] F v F1 → v = (0, cnt (bts (up ^^^ nw)) L) ∧ F1 = F) (h : Cl k_Pl_lay [(2, 48), (0, up), (0, nw), (0, s)] F v F') : v = (2, 0) ∧ fxo [46, 47, 48, 49] F F' ∧ F' 48 3 = cnt (bts (up ^^^ nw)) L ∧ cpl F' L E (bts s) up nw := by
  obtain ⟨n, h⟩ := c_Pl_lay h
  obtain ⟨n1, F1, c1, m, hm2, hR⟩ := q_Pl_lay_0 h
  have hL := hN.2.1
  rw [b_xor (k := L) (by omega) hu hw] at c1 hR
  obtain ⟨a1, a2⟩ := hbc _ _ c1
  cases a1
  subst a2
  have lp : ∀ (n : Nat) (F : fx_F) (k : Nat), Rn n k_Pl_lay 25 [(2, 48), (3, 0), (3, 0), (0, s), (0, pu L E (bts s) up nw k ^^^ nw), (0, pu L E (bts s) up nw k), (0, k), (3, 0)] [] F v F' → cn F nn L E → k ≤ 20 → (∀ j, j < k → pu L E (bts s) up nw j ≠ nw ∧ pt L E (bts s) up nw j ≠ 0) → F 48 4 = k → (∀ j, j < k → F 49 j = pt L E (bts s) up nw j) → v = (2, 0) ∧ fxo [46, 47, 48, 49] F F' ∧ F' 48 3 = F 48 3 ∧ cpl F' L E (bts s) up nw := by
    intro n
    induction n using Nat.strongRecOn with
    | ind n ih =>
      intro F k h hc hk hA h4 hB
      have hcn := pl_cnt (fun j hj => (hA j hj).2)
      have hpl : pu L E (bts s) up nw k ^^^ nw < 2 ^ L := Nat.xor_lt_two_pow (pu_lt hu k) hw
      have fin : pu L E (bts s) up nw k = nw → v = (2, 0) ∧ F' = F → v = (2, 0) ∧ fxo [46, 47, 48, 49] F F' ∧ F' 48 3 = F 48 3 ∧ cpl F' L E (bts s) up nw := by
        rintro he ⟨e1, e2⟩
        subst e2
        exact ⟨e1, fxo.rf, rfl, Or.inl ⟨k, hk, ⟨he, hA⟩, h4, hB⟩⟩
      have q := q_Pl_lay_25 h
      by_cases hk2 : k = 20
      · refine fin ?_ (q.1 (by rw [b_le (by decide) (by omega)]; omega))
        clear q
        exact pl_zero hu hw (by omega)
      · replace q := q.2 (by rw [b_lt (by omega) (by decide)]; omega)
        by_cases hz : pu L E (bts s) up nw k ^^^ nw = 0
        · exact fin (xz.mp hz) (q.1 hz)
        · obtain ⟨n1, F1, c1, q1, q2⟩ := q.2 hz
          clear q
          obtain ⟨a1, a2⟩ := s_takeLinks hN (pu_lt hu k) hpl hs hc c1
          cases a1
          have e : ∀ q j, q ∉ [46, 47] → F1 q j = F q j := a2
          have hc1 := hc.keep a2 (by decide) (by decide) (by decide)
          by_cases hp : pt L E (bts s) up nw k = 0
          · obtain ⟨e1, e2⟩ := q2 hp
            subst e2
            refine ⟨e1, (a2.mono (by decide)).wr (by decide), by rw [fu_i (by decide), e 48 _ (by decide)], Or.inr ⟨⟨k, fun j hj => (hA j hj).2, fun z => hz (xz.mpr z), hp⟩, by rw [fu_same]⟩⟩
          · obtain ⟨m, hm3, hR⟩ := q1 hp
            clear q1 q2
            have hb1 := @b_less_pl L E (bts s) up nw k hL hu hw
            rw [e 48 _ (by decide), h4, b_add (show k + 1 < 4294967296 by omega), show tkl L E (bts s) (pu L E (bts s) up nw k) (pu L E (bts s) up nw k ^^^ nw) L = pt L E (bts s) up nw k from rfl, hb1, b_xor (k := L) (by omega) (pu_lt hu k) (show pt L E (bts s) up nw k < 2 ^ L from tkl_lt), ← pu_s] at hR
            obtain ⟨r1, r2, r3, r4⟩ := ih m hm3 _ (k + 1) hR ((hc1.wr (by decide) (by decide) (by decide)).wr (by decide) (by decide) (by decide)) (by omega) (fun j hj => by
              by_cases ej : j = k
              · subst ej; exact ⟨fun z => hz (xz.mpr z), hp⟩
              · exact hA j (by omega)) fu_same (fun j hj => by
              rw [fu_p (by decide)]
              by_cases ej : j = k
              · subst ej; rw [fu_same]
              · rw [fu_i ej, e 49 _ (by decide)]
                exact hB j (by omega))
            refine ⟨r1, (((a2.mono (by decide)).wr (by decide)).wr (by decide)).tr r2, ?_, r4⟩
            rw [r3, fu_i (by decide), fu_p (by decide), e 48 _ (by decide)]
      
  obtain ⟨r1, r2, r3, r4⟩ := lp m _ 0 hR ((hc.wr (by decide) (by decide) (by decide)).wr (by decide) (by decide) (by decide)) (Nat.zero_le _) (fun j hj => absurd hj (Nat.not_lt_zero _)) fu_same (fun j hj => absurd hj (Nat.not_lt_zero _))
  refine ⟨r1, ((fxo.rf.wr (by decide)).wr (by decide)).tr r2, ?_, r4⟩
  rw [r3, fu_i (by decide), fu_same]
theorem s_phaseOf (hN : nt_ok nn L E) {up nw s l : Nat} {F : fx_F} (hl : l < L) (hp : cpl F L E (bts s) up nw) (h : Cl k_Pl_phaseOf [(2, 48), (0, l)] F v F') : F' = F ∧ ((∃ k j, plr L E (bts s) up nw k ∧ j < k ∧ (pt L E (bts s) up nw j).testBit l = true ∧ v = (0, j)) ∨ (((∃ k, plr L E (bts s) up nw k ∧ ∀ j, j < k → (pt L E (bts s) up nw j).testBit l = false) ∨ plb L E (bts s) up nw) ∧ v = (0, 4294967295))) := by
  obtain ⟨n, h⟩ := c_Pl_phaseOf h
  obtain ⟨m, hm2, hR⟩ := q_Pl_phaseOf_0 h
  have hL := hN.2.1
  rcases hp with ⟨k, hk, hp, h4, hB⟩ | ⟨hp, h4⟩
  · have lp : ∀ (n : Nat) (j : Nat), Rn n k_Pl_phaseOf 2 [(2, 48), (0, l), (0, j)] [] F v F' → j ≤ k → (∀ i, i < j → (pt L E (bts s) up nw i).testBit l = false) → F' = F ∧ ((∃ k j, plr L E (bts s) up nw k ∧ j < k ∧ (pt L E (bts s) up nw j).testBit l = true ∧ v = (0, j)) ∨ (((∃ k, plr L E (bts s) up nw k ∧ ∀ j, j < k → (pt L E (bts s) up nw j).testBit l = false) ∨ plb L E (bts s) up nw) ∧ v = (0, 4294967295))) := by
      intro n
      induction n using Nat.strongRecOn with
      | ind n ih =>
        intro j h hj hI
        have q := q_Pl_phaseOf_2 h
        rw [h4] at q
        by_cases e : j = k
        · obtain ⟨e1, e2⟩ := q.1 (by rw [b_le (by omega) (by omega)]; omega)
          subst e
          exact ⟨e2, Or.inr ⟨Or.inl ⟨j, hp, hI⟩, e1⟩⟩
        · have hlt : j < k := by omega
          have hp2 := p20 hL (show pt L E (bts s) up nw j < 2 ^ L from tkl_lt)
          replace q := q.2 (by rw [b_lt (by omega) (by omega)]; exact hlt)
          rw [b_add (show j + 1 < 4294967296 by omega), hB j hlt, b_bitl (show _ < 2147483648 by omega) (show l < 32 by omega)] at q
          by_cases hb : (pt L E (bts s) up nw j).testBit l = true
          · rw [if_pos hb] at q
            obtain ⟨e1, e2⟩ := q.2 rfl
            exact ⟨e2, Or.inl ⟨k, j, hp, hlt, hb, e1⟩⟩
          · rw [if_neg hb] at q
            obtain ⟨m, hm3, hR⟩ := q.1 (by decide)
            clear q
            refine ih m hm3 (j + 1) hR (by omega) (fun i hi => ?_)
            by_cases ei : i = j
            · subst ei
              cases hq : (pt L E (bts s) up nw i).testBit l with
              | false => rfl
              | true => exact absurd hq hb
            · exact hI i (by omega)
    exact lp m 0 hR (Nat.zero_le _) (fun i hi => absurd hi (Nat.not_lt_zero _))
  · have q := q_Pl_phaseOf_2 hR
    rw [h4] at q
    obtain ⟨e1, e2⟩ := q.1 (by rw [b_lec2 (by decide) (by decide)]; right; decide)
    exact ⟨e2, Or.inr ⟨Or.inr hp, e1⟩⟩
end CPLAN
end
section
/-! How many bits -/
theorem b_ushr {x k : Nat} (hx : x < 4294967296) (hk : k < 32) : i_ushr x k = x / 2 ^ k := by
  rw [i_ushr_eq]
  show x % 4294967296 / 2 ^ (k % 32) = _
  rw [Nat.mod_eq_of_lt hx, Nat.mod_eq_of_lt hk]
theorem land_split (X M : Nat) : X &&& M = ((X / 256) &&& (M / 256)) * 256 + ((X % 256) &&& (M % 256)) := by
  have h1 : (X &&& M) / 2 ^ 8 = (X / 2 ^ 8) &&& (M / 2 ^ 8) := by
    refine tb_ext (fun i => ?_)
    rw [Nat.testBit_div_two_pow, Nat.testBit_and, Nat.testBit_and, Nat.testBit_div_two_pow, Nat.testBit_div_two_pow]
  have h2 : (X &&& M) % 2 ^ 8 = (X % 2 ^ 8) &&& (M % 2 ^ 8) := by
    refine tb_ext (fun i => ?_)
    rw [Nat.testBit_mod_two_pow, Nat.testBit_and, Nat.testBit_and, Nat.testBit_mod_two_pow, Nat.testBit_mod_two_pow]
    cases decide (i < 8) <;> cases X.testBit i <;> cases M.testBit i <;> rfl
  have h3 : (X &&& M) = (X &&& M) / 2 ^ 8 * 256 + (X &&& M) % 2 ^ 8 := by omega
  rw [h3, h1, h2]
def bs1 (M x : Nat) : Nat := x - ((x / 2) &&& M)
def bs2 (M x : Nat) : Nat := (x &&& M) + ((x / 4) &&& M)
def bs3 (M x : Nat) : Nat := (x + x / 16) &&& M
theorem bs1_d : ∀ b, b < 256 → ∀ p, p < 2 → ((b + 256 * p) / 2) &&& 85 = (b / 2) &&& 85 := by decide +kernel
theorem bs2_d : ∀ b, b < 256 → ∀ p, p < 4 → ((b + 256 * p) / 4) &&& 51 = (b / 4) &&& 51 := by decide +kernel
theorem bs1_split {M a b : Nat} (hb : b < 256) (hM : M % 256 = 85) : bs1 M (a * 256 + b) = bs1 (M / 256) a * 256 + bs1 85 b := by
  unfold bs1
  rw [land_split, hM]
  rw [show (a * 256 + b) / 2 / 256 = a / 2 by omega, show (a * 256 + b) / 2 % 256 = (b + 256 * (a % 2)) / 2 by omega, bs1_d b hb (a % 2) (by omega)]
  have h1 : (a / 2) &&& (M / 256) ≤ a / 2 := Nat.and_le_left
  have h2 : (b / 2) &&& 85 ≤ b / 2 := Nat.and_le_left
  omega
theorem bs2_split {M a b : Nat} (hb : b < 256) (hM : M % 256 = 51) : bs2 M (a * 256 + b) = bs2 (M / 256) a * 256 + bs2 51 b := by
  unfold bs2
  rw [land_split (a * 256 + b), land_split ((a * 256 + b) / 4), hM]
  rw [show (a * 256 + b) / 4 / 256 = a / 4 by omega, show (a * 256 + b) / 4 % 256 = (b + 256 * (a % 4)) / 4 by omega, bs2_d b hb (a % 4) (by omega), show (a * 256 + b) / 256 = a by omega, show (a * 256 + b) % 256 = b by omega]
  omega
theorem bs3_split {M a b : Nat} (hb : b ≤ 68) (ha : a % 16 ≤ 4) (hM : M % 256 = 15) : bs3 M (a * 256 + b) = bs3 (M / 256) a * 256 + bs3 15 b := by
  unfold bs3
  rw [land_split, hM]
  have e1 : (a * 256 + b + (a * 256 + b) / 16) / 256 = a + a / 16 := by omega
  have e2 : (a * 256 + b + (a * 256 + b) / 16) % 256 = b + b / 16 + 16 * (a % 16) := by omega
  rw [e1, e2]
  have e3 : ∀ x, x &&& 15 = x % 16 := fun x => Nat.and_two_pow_sub_one_eq_mod x 4
  rw [e3, e3]
  omega
theorem bs_lo : ∀ b, b < 256 → bs1 85 b < 256 ∧ bs2 51 (bs1 85 b) ≤ 68 ∧ bs2 51 (bs1 85 b) % 16 ≤ 4 ∧ bs3 15 (bs2 51 (bs1 85 b)) = cnt (bts b) 8 := by decide +kernel
theorem bs_hi : ∀ b, b < 256 → bs2 13107 (bs1 21845 b) ≤ 68 ∧ bs2 13107 (bs1 21845 b) % 16 ≤ 4 ∧ bs3 3855 (bs2 13107 (bs1 21845 b)) = cnt (bts b) 8 := by decide +kernel
theorem cnt_add (p : Nat → Bool) (a : Nat) : ∀ b, cnt p (a + b) = cnt p a + cnt (fun i => p (a + i)) b
  | 0 => rfl
  | b + 1 => by
    show cnt p (a + b) + (if p (a + b) then 1 else 0) = cnt p a + (cnt (fun i => p (a + i)) b + if p (a + b) then 1 else 0)
    rw [cnt_add p a b]
    omega
theorem cnt_zero {p : Nat → Bool} : ∀ {n : Nat}, (∀ i, i < n → p i = false) → cnt p n = 0
  | 0, _ => rfl
  | n + 1, h => by
    show cnt p n + (if p n then 1 else 0) = 0
    rw [cnt_zero (fun i hi => h i (by omega)), h n (by omega)]
    rfl
theorem bts_split (x : Nat) (n : Nat) : cnt (bts x) (8 + n) = cnt (bts (x % 256)) 8 + cnt (bts (x / 256)) n := by
  rw [cnt_add]
  congr 1
  · refine cnt_congr (fun i hi => ?_)
    show x.testBit i = (x % 2 ^ 8).testBit i
    rw [Nat.testBit_mod_two_pow, decide_eq_true hi]; rfl
  · refine cnt_congr (fun i hi => ?_)
    show x.testBit (8 + i) = (x / 2 ^ 8).testBit i
    rw [Nat.testBit_div_two_pow]
    rw [Nat.add_comm]
theorem bts_sum (x : Nat) (hx : x < 1048576) : cnt (bts x) 20 = cnt (bts (x % 256)) 8 + cnt (bts (x / 256 % 256)) 8 + cnt (bts (x / 65536)) 8 := by
  have h1 : cnt (bts x) (8 + 12) = _ := bts_split x 12
  have h2 : cnt (bts (x / 256)) (8 + 4) = _ := bts_split (x / 256) 4
  rw [show (20 : Nat) = 8 + 12 from rfl, h1, show (12 : Nat) = 8 + 4 from rfl, h2, show x / 256 / 256 = x / 65536 by omega]
  have : cnt (bts (x / 65536)) (4 + 4) = cnt (bts (x / 65536)) 4 := by
    have z : cnt (fun i => bts (x / 65536) (4 + i)) 4 = 0 := cnt_zero (fun i hi => tb_out (show x / 65536 < 2 ^ 4 by omega) (by omega))
    rw [cnt_add, z, Nat.add_zero]
  rw [show (8 : Nat) = 4 + 4 from rfl] at *
  rw [this]
  omega
theorem bits_ok (x : Nat) (hx : x < 1048576) : bs3 252645135 (bs2 858993459 (bs1 1431655765 x)) = (cnt (bts (x / 65536)) 8 * 256 + cnt (bts (x / 256 % 256)) 8) * 256 + cnt (bts (x % 256)) 8 := by
  obtain ⟨a1, a2, a3, a4⟩ := bs_lo (x % 256) (by omega)
  obtain ⟨b1, b2, b3, b4⟩ := bs_lo (x / 256 % 256) (by omega)
  obtain ⟨c2, c3, c4⟩ := bs_hi (x / 65536) (by omega)
  have e : x = (x / 65536 * 256 + x / 256 % 256) * 256 + x % 256 := by omega
  have hy1 : x / 256 % 256 < 256 := by omega
  have hy0 : x % 256 < 256 := by omega
  generalize x / 65536 = y2 at *
  generalize x / 256 % 256 = y1 at *
  generalize x % 256 = y0 at *
  rw [e, bs1_split hy0 (by decide), bs1_split hy1 (by decide), bs2_split a1 (by decide), bs2_split b1 (by decide)]
  have hk : ∀ z, (z * 256 + bs2 51 (bs1 85 y1)) % 16 ≤ 4 := by intro z; omega
  rw [bs3_split a2 (hk _) (by decide), bs3_split b2 c3 (by decide)]
  rw [a4, b4]
  show (bs3 3855 (bs2 13107 (bs1 21845 y2)) * 256 + _) * 256 + _ = _
  rw [c4]
theorem s_bitCount {v : fx_V} {F F' : fx_F} {x : Nat} (hx : x < 1048576) (h : Cl k_I_bitCount [(0, x)] F v F') : v = (0, cnt (bts x) 20) ∧ F' = F := by
  obtain ⟨n, h⟩ := c_I_bitCount h
  obtain ⟨e1, e2⟩ := q_I_bitCount_0 h
  refine ⟨e1.trans (congrArg (Prod.mk 0) ?_), e2⟩
  have h1 : (x / 2) &&& 1431655765 ≤ x / 2 := Nat.and_le_left
  have t1 : i_sub x (i_and (i_ushr x 1) 1431655765) = bs1 1431655765 x := by
    rw [show i_ushr x 1 = x / 2 from b_ushr (by omega) (by decide), b_and (by omega), b_sub (by omega) (by omega)]; rfl
  have l1 : bs1 1431655765 x < 1048576 := by unfold bs1; omega
  rw [t1]
  have h2 : bs1 1431655765 x &&& 858993459 ≤ 858993459 := Nat.and_le_right
  have h3 : (bs1 1431655765 x / 4) &&& 858993459 ≤ 858993459 := Nat.and_le_right
  have h2' : bs1 1431655765 x &&& 858993459 ≤ bs1 1431655765 x := Nat.and_le_left
  have h3' : (bs1 1431655765 x / 4) &&& 858993459 ≤ bs1 1431655765 x / 4 := Nat.and_le_left
  have t2 : i_add (i_and (bs1 1431655765 x) 858993459) (i_and (i_ushr (bs1 1431655765 x) 2) 858993459) = bs2 858993459 (bs1 1431655765 x) := by
    rw [show i_ushr (bs1 1431655765 x) 2 = bs1 1431655765 x / 4 from b_ushr (by omega) (by decide), b_and (by omega), b_and (by omega), b_add (by omega)]; rfl
  rw [t2]
  have l2 : bs2 858993459 (bs1 1431655765 x) < 2097152 := by unfold bs2; omega
  have t3 : i_and (i_add (bs2 858993459 (bs1 1431655765 x)) (i_ushr (bs2 858993459 (bs1 1431655765 x)) 4)) 252645135 = bs3 252645135 (bs2 858993459 (bs1 1431655765 x)) := by
    rw [show i_ushr (bs2 858993459 (bs1 1431655765 x)) 4 = bs2 858993459 (bs1 1431655765 x) / 16 from b_ushr (by omega) (by decide), b_add (by omega), b_and (by omega)]; rfl
  rw [t3, bits_ok x hx, bts_sum x hx]
  have k2 := cnt_le (bts (x / 65536)) 8
  have k1 := cnt_le (bts (x / 256 % 256)) 8
  have k0 := cnt_le (bts (x % 256)) 8
  generalize cnt (bts (x / 65536)) 8 = y2 at *
  generalize cnt (bts (x / 256 % 256)) 8 = y1 at *
  generalize cnt (bts (x % 256)) 8 = y0 at *
  have e3 : ∀ z, z &&& 63 = z % 64 := fun z => Nat.and_two_pow_sub_one_eq_mod z 6
  have u8 : i_ushr ((y2 * 256 + y1) * 256 + y0) 8 = y2 * 256 + y1 := by
    rw [b_ushr (by omega) (by decide)]
    show ((y2 * 256 + y1) * 256 + y0) / 256 = _
    omega
  rw [u8, b_add (show (y2 * 256 + y1) * 256 + y0 + (y2 * 256 + y1) < 4294967296 by omega)]
  have u16 : i_ushr ((y2 * 256 + y1) * 256 + y0 + (y2 * 256 + y1)) 16 = y2 := by
    rw [b_ushr (by omega) (by decide)]
    show ((y2 * 256 + y1) * 256 + y0 + (y2 * 256 + y1)) / 65536 = _
    omega
  rw [u16, b_add (by omega), b_and (by omega), e3]
  omega
theorem cnt_20 {L x : Nat} (hL : L ≤ 20) (hx : x < 2 ^ L) : cnt (bts x) 20 = cnt (bts x) L := by
  have h := cnt_add (bts x) L (20 - L)
  rw [show L + (20 - L) = 20 by omega, cnt_zero (p := fun i => bts x (L + i)) (fun i hi => tb_out hx (by omega))] at h
  exact h
end
section
/-! The reference's plan -/
section MPLAN
variable {nn L : Nat} {E : Nat → Nat} {st : Nat → Bool} {v : fx_V} {F' : fx_F}
theorem ue_ne (hN : nt_ok nn L E) {u w : Nat → Bool} {l : Nat} (hl : l < L) : ue E u l = ue E w l ↔ u l = w l := by
  have h := (hN.2.2 (2 * l) (by omega)).2
  rw [show nf (2 * l) = 2 * l + 1 by unfold nf; rw [if_pos (by omega)]] at h
  unfold ue
  cases u l <;> cases w l
  · exact ⟨fun _ => rfl, fun _ => rfl⟩
  · rw [if_neg (by decide), if_pos rfl]; exact ⟨fun z => absurd z h, fun z => by cases z⟩
  · rw [if_pos rfl, if_neg (by decide)]; exact ⟨fun z => absurd z.symm h, fun z => by cases z⟩
  · exact ⟨fun _ => rfl, fun _ => rfl⟩
theorem bx_ne {u nw l : Nat} : (bts u l = bts nw l) ↔ (u ^^^ nw).testBit l = false := by
  rw [Nat.testBit_xor]
  show (u.testBit l = nw.testBit l) ↔ _
  cases u.testBit l <;> cases nw.testBit l <;> decide
theorem mix_bts {F : fx_F} {u nw m : Nat} (h : ∀ l, l < L → (F 202 l ≠ 0 ↔ m.testBit l = true)) (h2 : ∀ l, m.testBit l = true → (u ^^^ nw).testBit l = true) : ∀ l, l < L → mix F (bts u) (bts nw) l = bts (u ^^^ m) l := by
  intro l hl
  have h1 := h l hl
  have h3 := h2 l
  unfold mix
  rw [Nat.testBit_xor] at h3
  show (if F 202 l = 0 then u.testBit l else nw.testBit l) = (u ^^^ m).testBit l
  rw [Nat.testBit_xor]
  by_cases e : F 202 l = 0
  · have : m.testBit l = false := by
      cases hq : m.testBit l with
      | false => rfl
      | true => exact absurd e (h1.mpr hq)
    rw [if_pos e, this]; simp
  · have e2 := h1.mp e
    have := h3 e2
    rw [if_neg e, e2]
    revert this
    cases u.testBit l <;> cases nw.testBit l <;> decide
theorem s_flips (hN : nt_ok nn L E) {u nw : Nat} {F : fx_F} (hm : mn F nn L E) (hu : mur F L E (bts u)) (hw : ∀ l, l < L → F 190 l = ue E (bts nw) l) (h : Cl k_M_flips [(2, 175)] F v F') : v = (0, cnt (bts (u ^^^ nw)) L) ∧ F' = F := by
  obtain ⟨n, h⟩ := c_M_flips h
  obtain ⟨m, hm2, hR⟩ := q_M_flips_0 h
  have hL := hN.2.1
  have lp : ∀ (n l : Nat), Rn n k_M_flips 4 [(2, 175), (0, cnt (bts (u ^^^ nw)) l), (0, l)] [] F v F' → l ≤ L → v = (0, cnt (bts (u ^^^ nw)) L) ∧ F' = F := by
    intro n
    induction n using Nat.strongRecOn with
    | ind n ih =>
      intro l h hl
      have hc := cnt_le (bts (u ^^^ nw)) l
      have q := q_M_flips_4 h
      rw [hm.2.2.1] at q
      rcases Nat.lt_or_ge l L with hlt | hge
      · replace q := q.2 (by rw [b_lt (by omega) (by omega)]; exact hlt)
        rw [b_add (show l + 1 < 4294967296 by omega), b_add (show 20 + l < 4294967296 by omega), b_add (show _ + 0 < 4294967296 by omega), b_add (show _ + 1 < 4294967296 by omega), hu l hlt, hw l hlt] at q
        have key := (@ue_ne nn L E hN (bts nw) (bts u) l hlt).trans (eq_comm.trans (@bx_ne u nw l))
        by_cases e : ue E (bts nw) l = ue E (bts u) l
        · obtain ⟨m, hm3, hR⟩ := q.1 e
          clear q
          refine ih m hm3 (l + 1) ?_ (by omega)
          rw [show cnt (bts (u ^^^ nw)) (l + 1) = cnt (bts (u ^^^ nw)) l + 0 by
            show _ + (if bts (u ^^^ nw) l then 1 else 0) = _
            rw [show bts (u ^^^ nw) l = false from key.mp e]; rfl]
          exact hR
        · obtain ⟨m, hm3, hR⟩ := q.2 e
          clear q
          refine ih m hm3 (l + 1) ?_ (by omega)
          rw [show cnt (bts (u ^^^ nw)) (l + 1) = cnt (bts (u ^^^ nw)) l + 1 by
            show _ + (if bts (u ^^^ nw) l then 1 else 0) = _
            rw [show bts (u ^^^ nw) l = true by
              cases hq : bts (u ^^^ nw) l with
              | false => exact absurd (key.mpr hq) e
              | true => rfl]
            rfl]
          exact hR
      · obtain ⟨e1, e2⟩ := q.1 (by rw [b_le (by omega) (by omega)]; exact hge)
        clear q
        have : l = L := by omega
        subst this
        exact ⟨e1, e2⟩
  exact lp m 0 hR (Nat.zero_le _)
theorem s_takePhase (hN : nt_ok nn L E) {u nw k : Nat} (hub : u < 2 ^ L) (hnb : nw < 2 ^ L) {F : fx_F} (hm : mn F nn L E) (hst : ∀ l, l < L → st l = mst F l) (hu : mur F L E (bts u)) (hw : ∀ l, l < L → F 190 l = ue E (bts nw) l) (h : Cl k_M_takePhase [(2, 175), (0, k)] F v F') : ∃ n, v = (0, n) ∧ n ≤ L ∧ (n = 0 ↔ tkl L E st u (u ^^^ nw) L = 0) ∧ fxo [192, 202, 203] F F' ∧ (∀ l, l < L → (F' 202 l ≠ 0 ↔ (tkl L E st u (u ^^^ nw) L).testBit l = true)) ∧ ∀ l, l < L → F' 203 l = if (tkl L E st u (u ^^^ nw) L).testBit l then k else F 203 l := by
  obtain ⟨n, h⟩ := c_M_takePhase h
  obtain ⟨m, hm2, hR⟩ := q_M_takePhase_0 h
  have hL := hN.2.1
  have kp : ∀ F2 : fx_F, fxo [192, 202, 203] F F2 → mn F2 nn L E ∧ (∀ l, l < L → st l = mst F2 l) ∧ mur F2 L E (bts u) ∧ (∀ l, l < L → F2 190 l = ue E (bts nw) l) := by
    intro F2 ho
    refine ⟨hm.keep ho (by decide) (by decide) (by decide) (by decide), fun l hl => by rw [hst l hl]; unfold mst; rw [ho 176 _ (by decide)], fun l hl => (ho 176 _ (by decide)).trans (hu l hl), fun l hl => (ho 190 _ (by decide)).trans (hw l hl)⟩
  have lp : ∀ (n : Nat) (F2 : fx_F) (c l : Nat), Rn n k_M_takePhase 25 [(2, 175), (0, k), (0, c), (0, l)] [] F2 v F' → fxo [192, 202, 203] F F2 → l ≤ L → c ≤ l → (c = 0 ↔ tkl L E st u (u ^^^ nw) l = 0) → (∀ j, j < L → (F2 202 j ≠ 0 ↔ (tkl L E st u (u ^^^ nw) l).testBit j = true)) → (∀ j, j < L → F2 203 j = if (tkl L E st u (u ^^^ nw) l).testBit j then k else F 203 j) → ∃ n, v = (0, n) ∧ n ≤ L ∧ (n = 0 ↔ tkl L E st u (u ^^^ nw) L = 0) ∧ fxo [192, 202, 203] F F' ∧ (∀ l, l < L → (F' 202 l ≠ 0 ↔ (tkl L E st u (u ^^^ nw) L).testBit l = true)) ∧ ∀ l, l < L → F' 203 l = if (tkl L E st u (u ^^^ nw) L).testBit l then k else F 203 l := by
    intro n
    induction n using Nat.strongRecOn with
    | ind n ih =>
      intro F2 c l h ho hl hcl hc hA hB
      obtain ⟨km, ks, ku, kw⟩ := kp F2 ho
      have q := q_M_takePhase_25 h
      rw [km.2.2.1] at q
      rcases Nat.lt_or_ge l L with hlt | hge
      · replace q := q.2 (by rw [b_lt (by omega) (by omega)]; exact hlt)
        rw [b_add (show l + 1 < 4294967296 by omega), b_add (show 20 + l < 4294967296 by omega), b_add (show c + 1 < 4294967296 by omega), ku l hlt, kw l hlt] at q
        have key := (@ue_ne nn L E hN (bts nw) (bts u) l hlt).trans (eq_comm.trans (@bx_ne u nw l))
        by_cases e : ue E (bts nw) l = ue E (bts u) l
        · obtain ⟨m, hm3, hR⟩ := q.2 e
          clear q
          have et : tkl L E st u (u ^^^ nw) (l + 1) = tkl L E st u (u ^^^ nw) l := tkl_n (fun z => by rw [key.mp e] at z; cases z)
          exact ih m hm3 F2 c (l + 1) hR ho (by omega) (by omega) (by rw [et]; exact hc) (by rw [et]; exact hA) (by rw [et]; exact hB)
        · obtain ⟨n1, F1, c1, q1, q2⟩ := q.1 e
          clear q
          have hbit : (u ^^^ nw).testBit l = true := by
            cases hq : (u ^^^ nw).testBit l with
            | false => exact absurd (key.mpr hq) e
            | true => rfl
          have ho2 : fxo [192, 202, 203] F (fu F2 202 l 1) := ho.wr (by decide)
          obtain ⟨jm, js, ju, jw⟩ := kp _ ho2
          have hmb : ∀ j, j < L → ((fu F2 202 l 1) 202 j ≠ 0 ↔ (tkl L E st u (u ^^^ nw) l ||| 2 ^ l).testBit j = true) := by
            intro j hj
            rw [tb_or, Bool.or_eq_true, ← hA j hj, decide_eq_true_iff]
            by_cases ej : j = l
            · subst ej; rw [fu_same]; exact ⟨fun _ => Or.inr rfl, fun _ => by decide⟩
            · rw [fu_i ej]; exact ⟨fun z => Or.inl z, fun z => z.resolve_right ej⟩
          have hsub : ∀ j, (tkl L E st u (u ^^^ nw) l ||| 2 ^ l).testBit j = true → (u ^^^ nw).testBit j = true := by
            intro j hj
            rw [tb_or, Bool.or_eq_true, decide_eq_true_iff] at hj
            rcases hj with hj | hj
            · exact (tkl_b l j hj).2
            · subst hj; exact hbit
          obtain ⟨a1, a2⟩ := s_isSafe (st := st) hN jm js ju jw c1
          have e192 : ∀ q j, q ∉ [192] → F1 q j = (fu F2 202 l 1) q j := a1
          have hcy : cyc (fun c d => trn L E st (bts u) c d ∨ trn L E st (mix (fu F2 202 l 1) (bts u) (bts nw)) c d) ↔ unsf L E st u (tkl L E st u (u ^^^ nw) l ||| 2 ^ l) := by
            unfold unsf
            refine cyc_congr (fun c d => or_congr Iff.rfl (trn_congr (fun _ _ => rfl) (mix_bts hmb hsub)))
          have ho3 : fxo [192, 202, 203] F F1 := ho2.tr (a1.mono (by decide))
          rcases a2 with ⟨e2, t⟩ | ⟨e2, t⟩
          · cases e2
            obtain ⟨m, hm3, hR⟩ := q1 rfl
            have et : tkl L E st u (u ^^^ nw) (l + 1) = tkl L E st u (u ^^^ nw) l := tkl_n (fun _ => hcy.mp t)
            refine ih m hm3 _ c (l + 1) hR (ho3.wr (by decide)) (by omega) (by omega) (by rw [et]; exact hc) (fun j hj => ?_) (fun j hj => ?_)
            · rw [et]
              by_cases ej : j = l
              · subst ej
                rw [fu_same]
                exact ⟨fun z => absurd rfl z, fun z => by have := (tkl_b _ _ z).1; omega⟩
              · rw [fu_i ej, e192 202 _ (by decide), fu_i ej]; exact hA j hj
            · rw [et, fu_p (by decide), e192 203 _ (by decide), fu_p (by decide)]; exact hB j hj
          · cases e2
            obtain ⟨m, hm3, hR⟩ := q2 (by decide)
            have et : tkl L E st u (u ^^^ nw) (l + 1) = tkl L E st u (u ^^^ nw) l ||| 2 ^ l := tkl_y hbit (fun z => t (hcy.mpr z))
            refine ih m hm3 _ (c + 1) (l + 1) hR (ho3.wr (by decide)) (by omega) (by omega) ?_ (fun j hj => ?_) (fun j hj => ?_)
            · refine ⟨fun z => absurd z (by omega), fun z => ?_⟩
              have : (tkl L E st u (u ^^^ nw) (l + 1)).testBit l = true := by rw [et, tb_or]; simp
              rw [z, Nat.zero_testBit] at this
              cases this
            · rw [et, fu_p (by decide), e192 202 _ (by decide)]; exact hmb j hj
            · rw [et]
              by_cases ej : j = l
              · subst ej
                rw [fu_same, tb_or]; simp
              · rw [fu_i ej, e192 203 _ (by decide), fu_p (by decide), hB j hj, tb_or, decide_eq_false ej, Bool.or_false]
      · obtain ⟨e1, e2⟩ := q.1 (by rw [b_le (by omega) (by omega)]; exact hge)
        clear q
        have : l = L := by omega
        subst this
        subst e2
        exact ⟨c, e1, hcl, hc, ho, hA, hB⟩
  have l0 : ∀ (n : Nat) (F2 : fx_F) (l : Nat), Rn n k_M_takePhase 2 [(2, 175), (0, k), (0, l), (3, 0)] [] F2 v F' → l ≤ 20 → fxo [202] F F2 → (∀ j, j < l → F2 202 j = 0) → ∃ m F3, Rn m k_M_takePhase 25 [(2, 175), (0, k), (0, 0), (0, 0)] [] F3 v F' ∧ fxo [202] F F3 ∧ (∀ j, j < 20 → F3 202 j = 0) := by
    intro n
    induction n using Nat.strongRecOn with
    | ind n ih =>
      intro F2 l h hl ho hI
      have q := q_M_takePhase_2 h
      rcases Nat.lt_or_ge l 20 with hlt | hge
      · obtain ⟨m, hm3, hR⟩ := q.2 (by rw [b_lt (by omega) (by omega)]; exact hlt)
        clear q
        rw [b_add (show l + 1 < 4294967296 by omega)] at hR
        refine ih m hm3 _ (l + 1) hR (by omega) (ho.wr (by decide)) (fun j hj => ?_)
        by_cases ej : j = l
        · subst ej; rw [fu_same]
        · rw [fu_i ej]; exact hI j (by omega)
      · obtain ⟨m, hm3, hR⟩ := q.1 (by rw [b_le (by omega) (by omega)]; exact hge)
        exact ⟨m, F2, hR, ho, fun j hj => hI j (by omega)⟩
  obtain ⟨m, F3, r1, r2, r3⟩ := l0 m F 0 hR (Nat.zero_le _) fxo.rf (fun j hj => absurd hj (Nat.not_lt_zero _))
  exact lp m F3 0 0 r1 (r2.mono (by decide)) (Nat.zero_le _) (Nat.le_refl _) ⟨fun _ => rfl, fun _ => rfl⟩ (fun j hj => by
    rw [r3 j (by omega), show tkl L E st u (u ^^^ nw) 0 = 0 from rfl, Nat.zero_testBit]
    exact ⟨fun z => absurd rfl z, fun z => by cases z⟩) (fun j hj => by
    rw [show tkl L E st u (u ^^^ nw) 0 = 0 from rfl, Nat.zero_testBit, r2 203 _ (by decide)]; rfl)
theorem s_turnTaken (hN : nt_ok nn L E) {u nw m : Nat} {F : fx_F} (hm : mn F nn L E) (hu : mur F L E (bts u)) (hw : ∀ l, l < L → F 190 l = ue E (bts nw) l) (ht : ∀ l, l < L → (F 202 l ≠ 0 ↔ m.testBit l = true)) (h2 : ∀ l, m.testBit l = true → (u ^^^ nw).testBit l = true) (h : Cl k_M_turnTaken [(2, 175)] F v F') : v = (2, 0) ∧ fxo [176] F F' ∧ (∀ i, i < 20 ∨ 40 ≤ i → F' 176 i = F 176 i) ∧ mur F' L E (bts (u ^^^ m)) := by
  obtain ⟨n, h⟩ := c_M_turnTaken h
  obtain ⟨m0, hm2, hR⟩ := q_M_turnTaken_0 h
  have hL := hN.2.1
  have hx := mix_bts ht h2
  have lp : ∀ (n : Nat) (F2 : fx_F) (l : Nat), Rn n k_M_turnTaken 2 [(2, 175), (0, l)] [] F2 v F' → l ≤ L → fxo [176] F F2 → (∀ i, i < 20 ∨ 40 ≤ i → F2 176 i = F 176 i) → (∀ j, j < l → F2 176 (20 + j) = ue E (bts (u ^^^ m)) j) → (∀ j, l ≤ j → F2 176 (20 + j) = F 176 (20 + j)) → v = (2, 0) ∧ fxo [176] F F' ∧ (∀ i, i < 20 ∨ 40 ≤ i → F' 176 i = F 176 i) ∧ mur F' L E (bts (u ^^^ m)) := by
    intro n
    induction n using Nat.strongRecOn with
    | ind n ih =>
      intro F2 l h hl ho hA hB hC
      have e : ∀ q j, q ∉ [176] → F2 q j = F q j := ho
      have q := q_M_turnTaken_2 h
      rw [e 178 _ (by decide), e 175 _ (by decide), hm.2.2.1] at q
      rcases Nat.lt_or_ge l L with hlt | hge
      · replace q := q.2 (by rw [b_lt (by omega) (by omega)]; exact hlt)
        rw [b_add (show l + 1 < 4294967296 by omega), b_add (show 20 + l < 4294967296 by omega), e 202 _ (by decide), e 190 _ (by decide)] at q
        have hxl := hx l hlt
        unfold mix at hxl
        by_cases ez : F 202 l = 0
        · obtain ⟨m1, hm3, hR⟩ := q.1 ez
          clear q
          rw [if_pos ez] at hxl
          refine ih m1 hm3 F2 (l + 1) hR (by omega) ho hA (fun j hj => ?_) (fun j hj => hC j (by omega))
          by_cases ej : j = l
          · subst ej
            rw [hC j (Nat.le_refl _), hu j hlt]
            unfold ue; rw [hxl]
          · exact hB j (by omega)
        · obtain ⟨m1, hm3, hR⟩ := q.2 ez
          clear q
          rw [if_neg ez] at hxl
          refine ih m1 hm3 _ (l + 1) hR (by omega) (ho.wr (by decide)) (fun i hi => ?_) (fun j hj => ?_) (fun j hj => ?_)
          · rw [fu_i (by omega)]; exact hA i hi
          · by_cases ej : j = l
            · subst ej
              rw [fu_same, hw j hlt]
              unfold ue; rw [hxl]
            · rw [fu_i (by omega)]; exact hB j (by omega)
          · rw [fu_i (by omega)]; exact hC j (by omega)
      · obtain ⟨e1, e2⟩ := q.1 (by rw [b_le (by omega) (by omega)]; exact hge)
        clear q
        subst e2
        exact ⟨e1, ho, hA, fun j hj => hB j (by omega)⟩
  exact lp m0 F 0 hR (Nat.zero_le _) fxo.rf (fun _ _ => rfl) (fun j hj => absurd hj (Nat.not_lt_zero _)) (fun _ _ => rfl)
end MPLAN
end
section
/-! The reference's plan, through its phases -/
section MPF
variable {nn L : Nat} {E : Nat → Nat} {st : Nat → Bool} {v : fx_V} {F' : fx_F}
theorem cnt_xz {x : Nat} (hx : x < 2 ^ L) : cnt (bts x) L = 0 ↔ x = 0 := by
  constructor
  · intro h
    refine tb_ext (fun i => ?_)
    rw [Nat.zero_testBit]
    have z : ∀ n, cnt (bts x) n = 0 → ∀ i, i < n → x.testBit i = false := by
      intro n
      induction n with
      | zero => intro _ i hi; omega
      | succ n ih =>
        intro hz i hi
        have hz : cnt (bts x) n + (if x.testBit n then 1 else 0) = 0 := hz
        by_cases e : i = n
        · subst e
          cases hq : x.testBit i with
          | false => rfl
          | true => rw [hq, if_pos rfl] at hz; omega
        · exact ih (by omega) i (by omega)
    rcases Nat.lt_or_ge i L with hi | hi
    · exact z L h i hi
    · exact tb_out hx hi
  · intro h
    rw [h]
    exact cnt_zero (fun i hi => Nat.zero_testBit i)
/-- what the rounds of the plan need -/
def mpi (F : fx_F) (nn L : Nat) (E : Nat → Nat) (st : Nat → Bool) (u nw : Nat) : Prop := mn F nn L E ∧ (∀ l, l < L → st l = mst F l) ∧ mur F L E (bts u) ∧ ∀ l, l < L → F 190 l = ue E (bts nw) l
theorem s_round (hN : nt_ok nn L E) {up nw k a2 : Nat} (hub : up < 2 ^ L) (hnb : nw < 2 ^ L) (hk : k ≤ 20) {n : Nat} {F : fx_F} (hm : mpi F nn L E st (pu L E st up nw k) nw) (h : Rn n k_M_goPhases 28 [(2, 175), (3, 0), (0, a2), (0, k)] [] F v F') : (pu L E st up nw k = nw ∧ v = (0, k) ∧ F' = F) ∨ (pu L E st up nw k ≠ nw ∧ pt L E st up nw k = 0 ∧ v = (0, 4294967294) ∧ fxo [192, 202, 203] F F') ∨ (pu L E st up nw k ≠ nw ∧ pt L E st up nw k ≠ 0 ∧ ∃ m F3 n4 F4, m < n ∧ fxo [176, 192, 202, 203] F F3 ∧ (∀ i, i < 20 ∨ 40 ≤ i → F3 176 i = F 176 i) ∧ mur F3 L E (bts (pu L E st up nw (k + 1))) ∧ (∀ l, l < L → F3 203 l = if (pt L E st up nw k).testBit l then k else F 203 l) ∧ Cl k_M_goSteps [(2, 175), (0, a2)] F3 (0, n4) F4 ∧ Rn m k_M_goPhases 28 [(2, 175), (3, 0), (0, a2), (0, k + 1)] [] F4 v F') := by
  obtain ⟨n1, F1, c1, q1, q2⟩ := q_M_goPhases_28 h
  obtain ⟨km, ks, ku, kw⟩ := hm
  have hL := hN.2.1
  obtain ⟨a1, a2'⟩ := s_flips hN km ku kw c1
  cases a1
  subst a2'
  have hx : pu L E st up nw k ^^^ nw < 2 ^ L := Nat.xor_lt_two_pow (pu_lt hub k) hnb
  have hc := cnt_le (bts (pu L E st up nw k ^^^ nw)) L
  have hz := (cnt_xz hx).trans xz
  by_cases e : pu L E st up nw k = nw
  · obtain ⟨e1, e2⟩ := q1 (by rw [b_le (by omega) (by decide)]; have := hz.mpr e; omega)
    exact Or.inl ⟨e, e1, e2⟩
  · obtain ⟨n2, F2, c2, q3, q4⟩ := q2 (by rw [b_lt (by decide) (by omega)]; have : ¬ _ := fun z => e (hz.mp z); omega)
    clear q1 q2
    obtain ⟨x, b1, b2, b3, b4, b5, b6⟩ := s_takePhase hN (pu_lt hub k) hnb km ks ku kw c2
    cases b1
    by_cases e2 : n2 = 0
    · obtain ⟨e3, e4⟩ := q4 e2
      subst e4
      exact Or.inr (Or.inl ⟨e, b3.mp e2, e3, b4⟩)
    · obtain ⟨F3, c3, n4, F4, c4, m, hm2, hR⟩ := q3 e2
      rw [b_add (show k + 1 < 4294967296 by omega)] at hR
      have km2 : mn F2 nn L E := km.keep b4 (by decide) (by decide) (by decide) (by decide)
      obtain ⟨d1, d2, d3, d4⟩ := s_turnTaken hN km2 (u := pu L E st up nw k) (nw := nw) (m := pt L E st up nw k) (fun l hl => (b4 176 _ (by decide)).trans (ku l hl)) (fun l hl => (b4 190 _ (by decide)).trans (kw l hl)) b5 (fun l hl => (pt_b hl).2) c3
      refine Or.inr (Or.inr ⟨e, fun z => e2 (b3.mpr z), m, F3, n4, F4, hm2, (b4.mono (by decide)).tr (d2.mono (by decide)), fun i hi => (d3 i hi).trans (b4 176 _ (by decide)), ?_, fun l hl => ?_, c4, hR⟩)
      · rw [pu_s]; exact d4
      · rw [d2 203 _ (by decide)]; exact b6 l hl
/-- no steps -/
theorem s_goSteps0 {F : fx_F} (h : Cl k_M_goSteps [(2, 175), (0, 0)] F v F') : v = (0, 0) ∧ F' = F := by
  obtain ⟨n, h⟩ := c_M_goSteps h
  obtain ⟨m, hm2, hR⟩ := q_M_goSteps_0 h
  have q := q_M_goSteps_4 hR
  exact q.1 (by rw [b_le (by decide) (by decide)]; exact Nat.le_refl 0)
/-- link l's phase, of the first k -/
def mpo (F : fx_F) (L : Nat) (E : Nat → Nat) (st : Nat → Bool) (up nw k : Nat) : Prop := ∀ l, l < L → (∃ j, j < k ∧ (pt L E st up nw j).testBit l = true ∧ F 203 l = j) ∨ ((∀ j, j < k → (pt L E st up nw j).testBit l = false) ∧ F 203 l = 4294967295)
theorem mpo_s {F F3 : fx_F} {up nw k : Nat} (h : mpo F L E st up nw k) (h3 : ∀ l, l < L → F3 203 l = if (pt L E st up nw k).testBit l then k else F 203 l) : mpo F3 L E st up nw (k + 1) := by
  intro l hl
  have e := h3 l hl
  cases hq : (pt L E st up nw k).testBit l with
  | true =>
    rw [hq, if_pos rfl] at e
    exact Or.inl ⟨k, by omega, hq, e⟩
  | false =>
    rw [hq, if_neg (by decide)] at e
    rcases h l hl with ⟨j, j1, j2, j3⟩ | ⟨j1, j2⟩
    · exact Or.inl ⟨j, by omega, j2, e.trans j3⟩
    · refine Or.inr ⟨fun j hj => ?_, e.trans j2⟩
      by_cases ej : j = k
      · subst ej; exact hq
      · exact j1 j (by omega)
/-- the links' phases are set to none, and up ends laid by the root -/
theorem s_phases0 {C : Nat → Nat} {N r a2 : Nat} (hN : nt_ok nn L E) (hC : cd_ok C N) (hC2 : N ≠ 0 → 0 < hgt C N) (hr : r < nn ∨ nn = 0) (hr2 : r < 10) {F : fx_F} (hm : mn F nn L E) (hc : mcc F C N) (hst : ∀ l, l < L → st l = mst F l) (h : Cl k_M_goPhases [(2, 175), (0, r), (0, a2)] F v F') : ∃ n F1, fxo [188, 189, 190, 191, 203] F F1 ∧ (∀ l, l < L → F1 190 l = uend E (rk C N (fr L E st r) (fun u => dgc E st u (2 * L))) l) ∧ (∀ l, l < L → F1 203 l = 4294967295) ∧ Rn n k_M_goPhases 28 [(2, 175), (3, 0), (0, a2), (0, 0)] [] F1 v F' := by
  obtain ⟨n, h⟩ := c_M_goPhases h
  obtain ⟨F1, c1, m, hm2, hR⟩ := q_M_goPhases_0 h
  obtain ⟨a1, a3, -⟩ := s_orientBy hN hC hC2 hr hr2 hm hc hst c1
  have hL := hN.2.1
  have lp : ∀ (n : Nat) (F2 : fx_F) (l : Nat), Rn n k_M_goPhases 7 [(2, 175), (3, 0), (0, a2), (0, l)] [] F2 v F' → l ≤ 20 → fxo [203] F1 F2 → (∀ j, j < l → F2 203 j = 4294967295) → ∃ n F3, fxo [203] F1 F3 ∧ (∀ l, l < 20 → F3 203 l = 4294967295) ∧ Rn n k_M_goPhases 28 [(2, 175), (3, 0), (0, a2), (0, 0)] [] F3 v F' := by
    intro n
    induction n using Nat.strongRecOn with
    | ind n ih =>
      intro F2 l h hl ho hI
      have q := q_M_goPhases_7 h
      rcases Nat.lt_or_ge l 20 with hlt | hge
      · obtain ⟨m, hm3, hR⟩ := q.2 (by rw [b_lt (by omega) (by omega)]; exact hlt)
        clear q
        rw [b_add (show l + 1 < 4294967296 by omega)] at hR
        refine ih m hm3 _ (l + 1) hR (by omega) (ho.wr (by decide)) (fun j hj => ?_)
        by_cases ej : j = l
        · subst ej; rw [fu_same]
        · rw [fu_i ej]; exact hI j (by omega)
      · obtain ⟨m, hm3, hR⟩ := q.1 (by rw [b_le (by omega) (by omega)]; exact hge)
        exact ⟨m, F2, ho, fun j hj => hI j (by omega), hR⟩
  obtain ⟨n3, F3, r1, r2, r3⟩ := lp m F1 0 hR (Nat.zero_le _) fxo.rf (fun j hj => absurd hj (Nat.not_lt_zero _))
  exact ⟨n3, F3, (a1.mono (by decide)).tr (r1.mono (by decide)), fun l hl => (r1 190 _ (by decide)).trans (a3 l hl), fun l hl => r2 l (by omega), r3⟩
/-- up ends by ranks, as bits -/
def nwb (nw L : Nat) (E : Nat → Nat) (R : Nat → Nat) : Prop := nw < 2 ^ L ∧ ∀ j, nw.testBit j = true ↔ j < L ∧ abv R (E (2 * j + 1)) (E (2 * j))
theorem nwb_ue {nw : Nat} {R : Nat → Nat} (h : nwb nw L E R) {l : Nat} (hl : l < L) : uend E R l = ue E (bts nw) l := by
  have := h.2 l
  unfold uend ue
  by_cases e : abv R (E (2 * l + 1)) (E (2 * l))
  · rw [if_pos e, if_pos (show bts nw l = true from this.mpr ⟨hl, e⟩)]
  · rw [if_neg e, if_neg (fun z : bts nw l = true => e (this.mp z).2)]
theorem s_planFor {C : Nat → Nat} {N r up nw : Nat} (hN : nt_ok nn L E) (hC : cd_ok C N) (hC2 : N ≠ 0 → 0 < hgt C N) (hr : r < nn ∨ nn = 0) (hr2 : r < 10) (hub : up < 2 ^ L) (hnw : nwb nw L E (rk C N (fr L E st r) (fun u => dgc E st u (2 * L)))) {F : fx_F} (hm : mn F nn L E) (hc : mcc F C N) (hst : ∀ l, l < L → st l = mst F l) (hu : mur F L E (bts up)) (h : Cl k_M_planFor [(2, 175), (0, r)] F v F') : fxo [188, 189, 190, 191, 192, 199, 202, 203] F F' ∧ ((∃ k, k ≤ 20 ∧ plr L E st up nw k ∧ v = (0, k) ∧ mpo F' L E st up nw k) ∨ (plb L E st up nw ∧ v = (0, 4294967294))) := by
  obtain ⟨n, h⟩ := c_M_planFor h
  obtain ⟨F1, c1, n2, F2, c2, F3, c3, e1, e2⟩ := q_M_planFor_0 h
  have hL := hN.2.1
  subst e1
  subst e2
  -- put aside
  have pa : fxo [199] F F1 ∧ ∀ i, i < 103 → F1 199 i = F 176 i := by
    obtain ⟨n, h⟩ := c_M_putAside c1
    obtain ⟨m, hm2, hR⟩ := q_M_putAside_0 h
    have lp : ∀ (n : Nat) (F2 : fx_F) (l : Nat), Rn n k_M_putAside 2 [(2, 175), (0, l)] [] F2 (2, 0) F1 → l ≤ 103 → fxo [199] F F2 → (∀ i, i < l → F2 199 i = F 176 i) → fxo [199] F F1 ∧ ∀ i, i < 103 → F1 199 i = F 176 i := by
      intro n
      induction n using Nat.strongRecOn with
      | ind n ih =>
        intro F2 l h hl ho hI
        have q := q_M_putAside_2 h
        rcases Nat.lt_or_ge l 103 with hlt | hge
        · obtain ⟨m, hm3, hR⟩ := q.2 (by rw [b_lt (by omega) (by omega)]; exact hlt)
          clear q
          rw [b_add (show l + 1 < 4294967296 by omega)] at hR
          refine ih m hm3 _ (l + 1) hR (by omega) (ho.wr (by decide)) (fun j hj => ?_)
          by_cases ej : j = l
          · subst ej; rw [fu_same, ho 176 _ (by decide)]
          · rw [fu_i ej]; exact hI j (by omega)
        · obtain ⟨-, e⟩ := q.1 (by rw [b_le (by omega) (by omega)]; exact hge)
          subst e
          exact ⟨ho, fun i hi => hI i (by omega)⟩
    exact lp m F 0 hR (Nat.zero_le _) fxo.rf (fun i hi => absurd hi (Nat.not_lt_zero _))
  obtain ⟨pa1, pa2⟩ := pa
  have st1 : ∀ l, l < L → st l = mst F1 l := fun l hl => by rw [hst l hl]; unfold mst; rw [pa1 176 _ (by decide)]
  obtain ⟨n4, F4, a1, a2, a3, hR⟩ := s_phases0 hN hC hC2 hr hr2 (hm.keep pa1 (by decide) (by decide) (by decide) (by decide)) (hc.keep pa1 (by decide) (by decide) (by decide)) st1 c2
  have o4 : fxo [188, 189, 190, 191, 199, 203] F F4 := (pa1.mono (by decide)).tr (a1.mono (by decide))
  have w4 : ∀ l, l < L → F4 190 l = ue E (bts nw) l := fun l hl => (a2 l hl).trans (nwb_ue hnw hl)
  have lp : ∀ (n : Nat) (F5 : fx_F) (k : Nat), Rn n k_M_goPhases 28 [(2, 175), (3, 0), (0, 0), (0, k)] [] F5 (0, n2) F2 → fxo [176, 192, 202, 203] F4 F5 → (∀ i, i < 20 ∨ 40 ≤ i → F5 176 i = F 176 i) → mur F5 L E (bts (pu L E st up nw k)) → mpo F5 L E st up nw k → (∀ j, j < k → pu L E st up nw j ≠ nw ∧ pt L E st up nw j ≠ 0) → fxo [176, 192, 202, 203] F4 F2 ∧ (∀ i, i < 20 ∨ 40 ≤ i → F2 176 i = F 176 i) ∧ ((∃ k, k ≤ 20 ∧ plr L E st up nw k ∧ n2 = k ∧ mpo F2 L E st up nw k) ∨ (plb L E st up nw ∧ n2 = 4294967294)) := by
    intro n
    induction n using Nat.strongRecOn with
    | ind n ih =>
      intro F5 k h ho hA hB hD hJ
      have hcn := pl_cnt (fun j hj => (hJ j hj).2)
      have o5 : ∀ q j, q ∉ [176, 188, 189, 190, 191, 192, 199, 202, 203] → F5 q j = F q j := fun q j hq => by
        rw [ho q j (fun z => hq (by simp at z ⊢; omega)), o4 q j (fun z => hq (by simp at z ⊢; omega))]
      have hmp : mpi F5 nn L E st (pu L E st up nw k) nw := ⟨hm.keep (S := [176, 188, 189, 190, 191, 192, 199, 202, 203]) o5 (by decide) (by decide) (by decide) (by decide), fun l hl => by rw [hst l hl]; unfold mst; rw [hA l (Or.inl (by omega))], hB, fun l hl => (ho 190 _ (by decide)).trans (w4 l hl)⟩
      rcases s_round hN hub hnw.1 (by omega) hmp h with ⟨x1, x2, x3⟩ | ⟨x1, x2, x3, x4⟩ | ⟨x1, x2, m, F6, n7, F7, y1, y2, y3, y4, y5, y6, y7⟩
      · cases x2
        subst x3
        exact ⟨ho, hA, Or.inl ⟨n2, by omega, ⟨x1, hJ⟩, rfl, hD⟩⟩
      · cases x3
        exact ⟨ho.tr (x4.mono (by decide)), fun i hi => (x4 176 i (by decide)).trans (hA i hi), Or.inr ⟨⟨k, fun j hj => (hJ j hj).2, x1, x2⟩, rfl⟩⟩
      · obtain ⟨z1, z2⟩ := s_goSteps0 y6
        subst z2
        exact ih m y1 F7 (k + 1) y7 (ho.tr y2) (fun i hi => (y3 i hi).trans (hA i hi)) y4 (mpo_s hD y5) (fun j hj => by
          by_cases ej : j = k
          · subst ej; exact ⟨x1, x2⟩
          · exact hJ j (by omega))
  obtain ⟨g1, g2, g3⟩ := lp n4 F4 0 hR fxo.rf (fun i _ => o4 176 i (by decide)) (fun l hl => (o4 176 _ (by decide)).trans (hu l hl)) (fun l hl => Or.inr ⟨fun j hj => absurd hj (Nat.not_lt_zero _), a3 l hl⟩) (fun j hj => absurd hj (Nat.not_lt_zero _))
  -- bring back
  have bb : fxo [176] F2 F' ∧ (∀ i, i < 103 → F' 176 i = F2 199 i) ∧ ∀ i, 103 ≤ i → F' 176 i = F2 176 i := by
    obtain ⟨n, h⟩ := c_M_bringBack c3
    obtain ⟨m, hm2, hR⟩ := q_M_bringBack_0 h
    have lp : ∀ (n : Nat) (F3 : fx_F) (l : Nat), Rn n k_M_bringBack 2 [(2, 175), (0, l)] [] F3 (2, 0) F' → l ≤ 103 → fxo [176] F2 F3 → (∀ i, i < l → F3 176 i = F2 199 i) → (∀ i, 103 ≤ i → F3 176 i = F2 176 i) → fxo [176] F2 F' ∧ (∀ i, i < 103 → F' 176 i = F2 199 i) ∧ ∀ i, 103 ≤ i → F' 176 i = F2 176 i := by
      intro n
      induction n using Nat.strongRecOn with
      | ind n ih =>
        intro F3 l h hl ho hI hJ
        have q := q_M_bringBack_2 h
        rcases Nat.lt_or_ge l 103 with hlt | hge
        · obtain ⟨m, hm3, hR⟩ := q.2 (by rw [b_lt (by omega) (by omega)]; exact hlt)
          clear q
          rw [b_add (show l + 1 < 4294967296 by omega)] at hR
          refine ih m hm3 _ (l + 1) hR (by omega) (ho.wr (by decide)) (fun j hj => ?_) (fun j hj => by rw [fu_i (by omega)]; exact hJ j hj)
          by_cases ej : j = l
          · subst ej; rw [fu_same, ho 199 _ (by decide)]
          · rw [fu_i ej]; exact hI j (by omega)
        · obtain ⟨-, e⟩ := q.1 (by rw [b_le (by omega) (by omega)]; exact hge)
          subst e
          exact ⟨ho, fun i hi => hI i (by omega), hJ⟩
    exact lp m F2 0 hR (Nat.zero_le _) fxo.rf (fun i hi => absurd hi (Nat.not_lt_zero _)) (fun _ _ => rfl)
  obtain ⟨b1, b2, b3⟩ := bb
  refine ⟨fun q i hq => ?_, ?_⟩
  · by_cases e : q = 176
    · subst e
      rcases Nat.lt_or_ge i 103 with hi | hi
      · rw [b2 i hi, g1 199 _ (by decide), a1 199 _ (by decide), pa2 i hi]
      · rw [b3 i hi, g2 i (Or.inr (by omega))]
    · rw [b1 q i (fun z => e (by simpa using z)), g1 q i (fun z => hq (by simp at z ⊢; omega)), o4 q i (fun z => hq (by simp at z ⊢; omega))]
  · rcases g3 with ⟨k, k0, k1, k2, k3⟩ | ⟨k1, k2⟩
    · exact Or.inl ⟨k, k0, k1, by rw [k2], fun l hl => by rw [b1 203 _ (by decide)]; exact k3 l hl⟩
    · exact Or.inr ⟨k1, by rw [k2]⟩
end MPF
end
section
/-! Lawful ways: how far it is from a place to a goal -/
/-- the state behind a channel -/
def bh (u : Nat → Bool) (c : Nat) : Nat := if isup u c then 0 else 1
theorem bh_le (u : Nat → Bool) (c : Nat) : bh u c ≤ 1 := by unfold bh; split <;> omega
/-- by channel c one goes on from place x to place y -/
def gc (L : Nat) (E : Nat → Nat) (st u : Nat → Bool) (c x y : Nat) : Prop := c < 2 * L ∧ st (c / 2) = true ∧ x / 2 = E c ∧ x % 2 ≤ bh u c ∧ y = 2 * E (nf c) + bh u c
/-- a way of d channels from place x to goal g -/
def gw (L : Nat) (E : Nat → Nat) (st u : Nat → Bool) (g : Nat) : Nat → Nat → Prop
  | 0, x => x / 2 = g
  | d + 1, x => ∃ c y, gc L E st u c x y ∧ gw L E st u g d y
def gd (L : Nat) (E : Nat → Nat) (st u : Nat → Bool) (g d x : Nat) : Prop := gw L E st u g d x ∧ ∀ e, e < d → ¬ gw L E st u g e x
section HOPS
variable {nn L : Nat} {E : Nat → Nat} {st u : Nat → Bool} {g : Nat}
theorem gd_fun {d e x : Nat} (h : gd L E st u g d x) (h2 : gd L E st u g e x) : d = e := by
  rcases Nat.lt_trichotomy d e with z | z | z
  · exact absurd h.1 (h2.2 d z)
  · exact z
  · exact absurd h2.1 (h.2 e z)
theorem gd_ex {d x : Nat} (h : gw L E st u g d x) : ∃ e, e ≤ d ∧ gd L E st u g e x := by
  induction d using Nat.strongRecOn with
  | ind d ih =>
    by_cases hx : ∃ e, e < d ∧ gw L E st u g e x
    · obtain ⟨e, he, hw⟩ := hx
      obtain ⟨f, hf, hd⟩ := ih e he hw
      exact ⟨f, by omega, hd⟩
    · exact ⟨d, Nat.le_refl d, h, fun e he hw => hx ⟨e, he, hw⟩⟩
theorem gd_pred {d x : Nat} (h : gd L E st u g (d + 1) x) : ∃ c y, gc L E st u c x y ∧ gd L E st u g d y := by
  obtain ⟨⟨c, y, h1, h2⟩, h5⟩ := h
  exact ⟨c, y, h1, h2, fun e he hw => h5 (e + 1) (by omega) ⟨c, y, h1, hw⟩⟩
theorem gd_down {d x : Nat} (h : gd L E st u g d x) : ∀ k, k ≤ d → ∃ y, gd L E st u g k y := by
  intro k hk
  induction d generalizing x with
  | zero => exact ⟨x, by rw [show k = 0 by omega]; exact h⟩
  | succ d ih =>
    rcases Nat.lt_or_ge d k with z | z
    · exact ⟨x, by rw [show k = d + 1 by omega]; exact h⟩
    · obtain ⟨c, y, _, h4⟩ := gd_pred h
      exact ih h4 z
theorem gc_lt (hN : nt_ok nn L E) {c x y : Nat} (h : gc L E st u c x y) : x < 2 * nn ∧ y < 2 * nn := by
  obtain ⟨h1, h2, h3, h4, h5⟩ := h
  have a := (hN.2.2 c h1).1
  have b := (hN.2.2 _ (nf_lt h1)).1
  have := bh_le u c
  omega
theorem gd_x (hN : nt_ok nn L E) (hg : g < nn) {d x : Nat} (h : gd L E st u g d x) : x < 2 * nn := by
  cases d with
  | zero =>
    have : x / 2 = g := h.1
    omega
  | succ d =>
    obtain ⟨c, y, h1, _⟩ := gd_pred h
    exact (gc_lt hN h1).1
theorem gd_lt (hN : nt_ok nn L E) (hg : g < nn) {d x : Nat} (h : gd L E st u g d x) : d < 2 * nn := by
  have hx := gd_down h
  refine pg_hole (2 * nn) d (fun k => if hk : k ≤ d then (hx k hk).choose else 0) (fun k hk => ?_) (fun i j hi hj hij => ?_)
  · show (if hk : k ≤ d then (hx k hk).choose else 0) < 2 * nn
    rw [dif_pos hk]
    exact gd_x hN hg (hx k hk).choose_spec
  · replace hij : (if hk : i ≤ d then (hx i hk).choose else 0) = (if hk : j ≤ d then (hx j hk).choose else 0) := hij
    rw [dif_pos hi, dif_pos hj] at hij
    have a := (hx i hi).choose_spec
    have b := (hx j hj).choose_spec
    rw [hij] at a
    exact gd_fun a b
theorem gd_none {m : Nat} (h : ∀ x, ¬ gd L E st u g m x) : ∀ d, m ≤ d → ∀ x, ¬ gd L E st u g d x := by
  intro d hd x hx
  obtain ⟨y, hy⟩ := gd_down hx m hd
  exact h y hy
theorem gw_none {x : Nat} (h : ∀ d, ¬ gd L E st u g d x) (d : Nat) : ¬ gw L E st u g d x := fun hw => by
  obtain ⟨e, _, he⟩ := gd_ex hw
  exact h e he
/-- within a level: channels below c have been seen -/
def hJ (nn L : Nat) (E : Nat → Nat) (st u : Nat → Bool) (g k c : Nat) (row : Nat → Nat) : Prop := (∀ x, x < 2 * nn → row x ≠ 4294967295 → gd L E st u g (row x) x ∧ row x ≤ k) ∧ (∀ x d, d < k → gd L E st u g d x → row x = d) ∧ ∀ c', c' < c → ∀ x y, gc L E st u c' x y → gd L E st u g (k - 1) y → row x ≠ 4294967295
/-- a place reached -/
def rst (row : Nat → Nat) (a b k : Nat) : Nat → Nat := fun x => if x = a ∧ row a = 4294967295 ∧ row b = k - 1 then k else row x
theorem rst_mono {row : Nat → Nat} {a b k x : Nat} (hk : k ≤ 20) (h : row x ≠ 4294967295) : rst row a b k x ≠ 4294967295 := by
  unfold rst; split
  · omega
  · exact h
theorem rst_ok (hN : nt_ok nn L E) {row : Nat → Nat} {k c d a b : Nat} (hk1 : 1 ≤ k) (hk : k ≤ 20) (h : hJ nn L E st u g k c row) (he : gc L E st u d a b) : hJ nn L E st u g k c (rst row a b k) ∧ (gd L E st u g (k - 1) b → rst row a b k a ≠ 4294967295) := by
  obtain ⟨hA, hB, hC⟩ := h
  obtain ⟨la, lb⟩ := gc_lt hN he
  refine ⟨⟨fun x hx hne => ?_, fun x d' hd hg => ?_, fun c' hc' x y h1 h2 => rst_mono hk (hC c' hc' x y h1 h2)⟩, fun hg hz => ?_⟩
  · unfold rst at hne ⊢
    by_cases z : x = a ∧ row a = 4294967295 ∧ row b = k - 1
    · rw [if_pos z]
      obtain ⟨z1, z2, z3⟩ := z
      subst z1
      refine ⟨⟨?_, fun e hek hw => ?_⟩, Nat.le_refl k⟩
      · have := (hA b lb (by omega)).1.1
        rw [z3] at this
        rw [show k = k - 1 + 1 by omega]
        exact ⟨d, b, he, this⟩
      · obtain ⟨f, hf, hd⟩ := gd_ex hw
        have := hB x f (by omega) hd
        omega
    · rw [if_neg z] at hne ⊢
      exact hA x hx hne
  · have := hB x d' hd hg
    have h20 : d' < 4294967295 := by omega
    unfold rst
    rw [if_neg (fun z => ?_)]
    · exact this
    · rw [z.1] at this; omega
  · have := hB b (k - 1) (by omega) hg
    unfold rst at hz
    by_cases z : row a = 4294967295
    · rw [if_pos ⟨rfl, z, this⟩] at hz; omega
    · rw [if_neg (fun y => z y.2.1)] at hz; exact z hz
/-- a place reached, in the class's row b -/
def rch (F : fx_F) (P b x y k : Nat) : fx_F := fun q j => if q = P ∧ j = b + x ∧ F P (b + x) = 4294967295 ∧ F P (b + y) = k - 1 then k else F q j
theorem rch_y {F : fx_F} {P b x y k : Nat} (h : F P (b + x) = 4294967295) (h2 : F P (b + y) = k - 1) : fu F P (b + x) k = rch F P b x y k := by
  funext q j
  unfold rch
  rw [fu_if]
  by_cases z : q = P ∧ j = b + x
  · rw [if_pos z, if_pos ⟨z.1, z.2, h, h2⟩]
  · rw [if_neg z, if_neg (fun y => z ⟨y.1, y.2.1⟩)]
theorem rch_n {F : fx_F} {P b x y k : Nat} (h : ¬ (F P (b + x) = 4294967295 ∧ F P (b + y) = k - 1)) : F = rch F P b x y k := by
  funext q j
  unfold rch
  rw [if_neg (fun z => h z.2.2)]
theorem rch_o {F : fx_F} {P b x y k q j : Nat} (h : q ≠ P ∨ j ≠ b + x) : rch F P b x y k q j = F q j := by
  unfold rch
  rw [if_neg (fun z => h.elim (fun y => y z.1) (fun y => y z.2.1))]
theorem rch_row {F : fx_F} {P b x y k z : Nat} : rch F P b x y k P (b + z) = rst (fun z => F P (b + z)) x y k z := by
  unfold rch rst
  by_cases e : z = x
  · subst e
    by_cases w : F P (b + z) = 4294967295 ∧ F P (b + y) = k - 1
    · rw [if_pos ⟨rfl, rfl, w⟩, if_pos ⟨rfl, w⟩]
    · rw [if_neg (fun q => w q.2.2), if_neg (fun q => w q.2)]
  · rw [if_neg (fun q => e (by omega)), if_neg (fun q => e q.1)]
end HOPS
section CHOPS
variable {nn L s p b k : Nat} {E : Nat → Nat} {u : Nat → Bool} {v : fx_V} {F' : fx_F}
/-- what stays in a level -/
def glo (F F' : fx_F) (p b : Nat) : Prop := fxo [p + 1] F F' ∧ ∀ j, (j < b ∨ b + 20 ≤ j) → F' (p + 1) j = F (p + 1) j
theorem glo.rf {F : fx_F} : glo F F p b := ⟨fxo.rf, fun _ _ => rfl⟩
theorem glo.tr {F F1 F2 : fx_F} (h : glo F F1 p b) (h2 : glo F1 F2 p b) : glo F F2 p b := ⟨h.1.tr h2.1, fun j hj => (h2.2 j hj).trans (h.2 j hj)⟩
theorem glo.rch {F F1 : fx_F} {x y : Nat} (hx : x < 20) (h : glo F F1 p b) : glo F (rch F1 (p + 1) b x y k) p b := ⟨fun q j hq => by
    rw [rch_o (Or.inl (fun z => hq (by rw [z]; exact List.mem_singleton.mpr rfl)))]; exact h.1 q j hq, fun j hj => by
    rw [rch_o (Or.inr (by omega))]; exact h.2 j hj⟩
theorem glo.wr {F F1 : fx_F} {x v : Nat} (hx : x < 20) (h : glo F F1 p b) : glo F (fu F1 (p + 1) (b + x) v) p b := ⟨h.1.wr List.mem_cons_self, fun j hj => by rw [fu_i (by omega)]; exact h.2 j hj⟩
/-- what the class's level needs -/
def gli (F : fx_F) (nn L s p : Nat) (E : Nat → Nat) (u : Nat → Bool) : Prop := cn F nn L E ∧ F p 2 = s ∧ ∀ c, c < 2 * L → F (p + 5) c = bh u c
theorem gli.keep {F F' : fx_F} (h : gli F nn L s p E u) (hp : 24 ≤ p) {S : List Nat} (ho : fxo S F F') (h3 : 3 ∉ S) (h4 : 4 ∉ S) (h5 : 5 ∉ S) (hq : p ∉ S) (hq5 : p + 5 ∉ S) : gli F' nn L s p E u := ⟨h.1.keep ho h3 h4 h5, (ho p 2 hq).trans h.2.1, fun c hc => (ho (p + 5) c hq5).trans (h.2.2 c hc)⟩
theorem gli.glo {F F' : fx_F} (h : gli F nn L s p E u) (hp : 24 ≤ p) (ho : glo F F' p b) : gli F' nn L s p E u := h.keep hp ho.1 (by simp; omega) (by simp; omega) (by simp; omega) (by simp) (by simp)
theorem gl_step (hN : nt_ok nn L E) (hs : s < 2147483648) (hp : 24 ≤ p) (hb : b ≤ 200) (hk1 : 1 ≤ k) (hk : k ≤ 20) {n c gf : Nat} {F : fx_F} (h : Rn n k_Ro_growLevel 5 [(2, p), (0, b), (0, k), (0, gf), (0, c), (3, 0), (3, 0)] [] F v F') (hI : gli F nn L s p E u) (hc : c < 2 * L) : ∃ m g' F1, m < n ∧ Rn m k_Ro_growLevel 5 [(2, p), (0, b), (0, k), (0, g'), (0, c + 1), (3, 0), (3, 0)] [] F1 v F' ∧ (g' = 0 → gf = 0 ∧ F1 = F) ∧ ((s.testBit (c / 2) = false ∧ F1 = F) ∨ (s.testBit (c / 2) = true ∧ bh u c = 0 ∧ F1 = rch F (p + 1) b (2 * E c) (2 * E (nf c)) k) ∨ (s.testBit (c / 2) = true ∧ bh u c = 1 ∧ F1 = rch (rch F (p + 1) b (2 * E c) (2 * E (nf c) + 1) k) (p + 1) b (2 * E c + 1) (2 * E (nf c) + 1) k)) := by
  have hL := hN.2.1
  have hn := hN.1
  obtain ⟨hcn, h2, hbh⟩ := hI
  have q := q_Ro_growLevel_5 h
  have e1 := (hN.2.2 c hc).1
  have e2 := (hN.2.2 _ (nf_lt hc)).1
  rw [hcn.2.1, b_mul (show 2 * L < 4294967296 by omega), h2, b_bit hs (show c < 64 by omega), (hcn.2.2 c hc).1, (hcn.2.2 c hc).2, b_mul (show 2 * E c < 4294967296 by omega), b_mul (show 2 * E (nf c) < 4294967296 by omega), b_add (show c + 1 < 4294967296 by omega), b_add (show b + 2 * E c < 4294967296 by omega), b_add (show b + 2 * E (nf c) < 4294967296 by omega), b_add (show b + 2 * E c + 1 < 4294967296 by omega), b_add (show b + 2 * E (nf c) + 1 < 4294967296 by omega), b_sub (show 1 ≤ k by omega) (show k < 4294967296 by omega), Nat.add_assoc b (2 * E c) 1, Nat.add_assoc b (2 * E (nf c)) 1, hbh c hc] at q
  replace q := q.2 (by rw [b_lt (by omega) (by omega)]; exact hc)
  cases hst : s.testBit (c / 2) with
  | false =>
    rw [hst, if_neg (by decide)] at q
    obtain ⟨m, hm, hR⟩ := q.1 (by decide)
    exact ⟨m, gf, F, hm, hR, fun z => ⟨z, rfl⟩, Or.inl ⟨rfl, rfl⟩⟩
  | true =>
    rw [hst, if_pos rfl] at q
    replace q := q.2 rfl
    have hb01 := bh_le u c
    by_cases hz : bh u c = 0
    · replace q := q.2 hz
      by_cases ha : F (p + 1) (b + 2 * E c) = 4294967295
      · replace q := q.2 ha
        by_cases hb2 : F (p + 1) (b + 2 * E (nf c)) = k - 1
        · obtain ⟨m, hm, hR⟩ := q.1 hb2
          exact ⟨m, 1, _, hm, hR, fun z => (by cases z), Or.inr (Or.inl ⟨rfl, hz, rch_y ha hb2⟩)⟩
        · replace q := q.2 hb2
          by_cases hg : gf = 0
          · obtain ⟨m, hm, hR⟩ := q.1 hg
            exact ⟨m, 0, F, hm, hR, fun z => ⟨hg, rfl⟩, Or.inr (Or.inl ⟨rfl, hz, rch_n (fun z => hb2 z.2)⟩)⟩
          · obtain ⟨m, hm, hR⟩ := q.2 hg
            exact ⟨m, 1, F, hm, hR, fun z => (by cases z), Or.inr (Or.inl ⟨rfl, hz, rch_n (fun z => hb2 z.2)⟩)⟩
      · replace q := q.1 ha
        by_cases hg : gf = 0
        · obtain ⟨m, hm, hR⟩ := q.1 hg
          exact ⟨m, 0, F, hm, hR, fun z => ⟨hg, rfl⟩, Or.inr (Or.inl ⟨rfl, hz, rch_n (fun z => ha z.1)⟩)⟩
        · obtain ⟨m, hm, hR⟩ := q.2 hg
          exact ⟨m, 1, F, hm, hR, fun z => (by cases z), Or.inr (Or.inl ⟨rfl, hz, rch_n (fun z => ha z.1)⟩)⟩
    · replace q := q.1 hz
      have h1 : bh u c = 1 := by clear q; omega
      -- the second reach
      have fin : ∀ G : fx_F, G = rch F (p + 1) b (2 * E c) (2 * E (nf c) + 1) k → ∀ m g' F1, m < n → Rn m k_Ro_growLevel 5 [(2, p), (0, b), (0, k), (0, g'), (0, c + 1), (3, 0), (3, 0)] [] F1 v F' → (g' = 0 → gf = 0 ∧ F1 = F) → F1 = rch G (p + 1) b (2 * E c + 1) (2 * E (nf c) + 1) k → ∃ m g' F1, m < n ∧ Rn m k_Ro_growLevel 5 [(2, p), (0, b), (0, k), (0, g'), (0, c + 1), (3, 0), (3, 0)] [] F1 v F' ∧ (g' = 0 → gf = 0 ∧ F1 = F) ∧ ((true = false ∧ F1 = F) ∨ (true = true ∧ bh u c = 0 ∧ F1 = rch F (p + 1) b (2 * E c) (2 * E (nf c)) k) ∨ (true = true ∧ bh u c = 1 ∧ F1 = rch (rch F (p + 1) b (2 * E c) (2 * E (nf c) + 1) k) (p + 1) b (2 * E c + 1) (2 * E (nf c) + 1) k)) := by
        intro G hG m g' F1 hm hR hg hF
        exact ⟨m, g', F1, hm, hR, hg, Or.inr (Or.inr ⟨rfl, h1, by rw [hF, hG]⟩)⟩
      by_cases ha : F (p + 1) (b + 2 * E c) = 4294967295
      · replace q := q.2 ha
        by_cases hb2 : F (p + 1) (b + (2 * E (nf c) + 1)) = k - 1
        · replace q := q.1 hb2
          have hG := rch_y ha hb2
          by_cases hc2 : (fu F (p + 1) (b + 2 * E c) k) (p + 1) (b + (2 * E c + 1)) = 4294967295
          · replace q := q.2 hc2
            by_cases hd : (fu F (p + 1) (b + 2 * E c) k) (p + 1) (b + (2 * E (nf c) + 1)) = k - 1
            · obtain ⟨m, hm, hR⟩ := q.1 hd
              exact fin _ hG m _ _ hm hR (fun z => by cases z) (rch_y hc2 hd)
            · obtain ⟨m, hm, hR⟩ := q.2 hd
              exact fin _ hG m _ _ hm hR (fun z => by cases z) (rch_n (fun z => hd z.2))
          · obtain ⟨m, hm, hR⟩ := q.1 hc2
            exact fin _ hG m _ _ hm hR (fun z => by cases z) (rch_n (fun z => hc2 z.1))
        · replace q := q.2 hb2
          have hG : F = rch F (p + 1) b (2 * E c) (2 * E (nf c) + 1) k := rch_n (fun z => hb2 z.2)
          by_cases hg : gf = 0
          · replace q := q.1 hg
            by_cases hc2 : F (p + 1) (b + (2 * E c + 1)) = 4294967295
            · obtain ⟨m, hm, hR⟩ := (q.2 hc2).2 hb2
              exact fin _ hG m _ _ hm hR (fun z => ⟨hg, rfl⟩) (rch_n (fun z => hb2 z.2))
            · obtain ⟨m, hm, hR⟩ := q.1 hc2
              exact fin _ hG m _ _ hm hR (fun z => ⟨hg, rfl⟩) (rch_n (fun z => hc2 z.1))
          · replace q := q.2 hg
            by_cases hc2 : F (p + 1) (b + (2 * E c + 1)) = 4294967295
            · obtain ⟨m, hm, hR⟩ := (q.2 hc2).2 hb2
              exact fin _ hG m _ _ hm hR (fun z => by cases z) (rch_n (fun z => hb2 z.2))
            · obtain ⟨m, hm, hR⟩ := q.1 hc2
              exact fin _ hG m _ _ hm hR (fun z => by cases z) (rch_n (fun z => hc2 z.1))
      · replace q := q.1 ha
        have hG : F = rch F (p + 1) b (2 * E c) (2 * E (nf c) + 1) k := rch_n (fun z => ha z.1)
        by_cases hg : gf = 0
        · replace q := q.1 hg
          by_cases hc2 : F (p + 1) (b + (2 * E c + 1)) = 4294967295
          · by_cases hb2 : F (p + 1) (b + (2 * E (nf c) + 1)) = k - 1
            · obtain ⟨m, hm, hR⟩ := (q.2 hc2).1 hb2
              exact fin _ hG m _ _ hm hR (fun z => by cases z) (rch_y hc2 hb2)
            · obtain ⟨m, hm, hR⟩ := (q.2 hc2).2 hb2
              exact fin _ hG m _ _ hm hR (fun z => ⟨hg, rfl⟩) (rch_n (fun z => hb2 z.2))
          · obtain ⟨m, hm, hR⟩ := q.1 hc2
            exact fin _ hG m _ _ hm hR (fun z => ⟨hg, rfl⟩) (rch_n (fun z => hc2 z.1))
        · replace q := q.2 hg
          by_cases hc2 : F (p + 1) (b + (2 * E c + 1)) = 4294967295
          · by_cases hb2 : F (p + 1) (b + (2 * E (nf c) + 1)) = k - 1
            · obtain ⟨m, hm, hR⟩ := (q.2 hc2).1 hb2
              exact fin _ hG m _ _ hm hR (fun z => by cases z) (rch_y hc2 hb2)
            · obtain ⟨m, hm, hR⟩ := (q.2 hc2).2 hb2
              exact fin _ hG m _ _ hm hR (fun z => by cases z) (rch_n (fun z => hb2 z.2))
          · obtain ⟨m, hm, hR⟩ := q.1 hc2
            exact fin _ hG m _ _ hm hR (fun z => by cases z) (rch_n (fun z => hc2 z.1))
end CHOPS
end
section
/-! The class's hops -/
section SEE
variable {nn L s p b k g : Nat} {E : Nat → Nat} {u : Nat → Bool} {v : fx_V} {F' : fx_F}
/-- a row after k levels: goal's row is at b -/
def hI (nn L : Nat) (E : Nat → Nat) (st u : Nat → Bool) (g k : Nat) (row : Nat → Nat) : Prop := (∀ x, x < 2 * nn → row x ≠ 4294967295 → gd L E st u g (row x) x ∧ row x ≤ k) ∧ ∀ x d, d ≤ k → gd L E st u g d x → row x = d
theorem s_growLevel (hN : nt_ok nn L E) (hg : g < nn) (hs : s < 2147483648) (hp : 24 ≤ p) (hb : b ≤ 200) (hk1 : 1 ≤ k) (hk : k ≤ 20) {F : fx_F} (hI0 : gli F nn L s p E u) (h0 : hI nn L E (bts s) u g (k - 1) (fun x => F (p + 1) (b + x))) (h : Cl k_Ro_growLevel [(2, p), (0, b), (0, k)] F v F') : ∃ gf, v = (0, gf) ∧ glo F F' p b ∧ hI nn L E (bts s) u g k (fun x => F' (p + 1) (b + x)) ∧ (gf = 0 → ∀ x, ¬ gd L E (bts s) u g k x) := by
  obtain ⟨n, h⟩ := c_Ro_growLevel h
  obtain ⟨m, hm2, hR⟩ := q_Ro_growLevel_0 h
  have hL := hN.2.1
  have hn := hN.1
  have lp : ∀ (n : Nat) (F2 : fx_F) (c gf : Nat), Rn n k_Ro_growLevel 5 [(2, p), (0, b), (0, k), (0, gf), (0, c), (3, 0), (3, 0)] [] F2 v F' → c ≤ 2 * L → glo F F2 p b → hJ nn L E (bts s) u g k c (fun x => F2 (p + 1) (b + x)) → (gf = 0 → ∀ x, x < 2 * nn → F2 (p + 1) (b + x) ≠ k) → ∃ gf, v = (0, gf) ∧ glo F F' p b ∧ hI nn L E (bts s) u g k (fun x => F' (p + 1) (b + x)) ∧ (gf = 0 → ∀ x, ¬ gd L E (bts s) u g k x) := by
    intro n
    induction n using Nat.strongRecOn with
    | ind n ih =>
      intro F2 c gf h hc ho hj hgf
      have hI2 := hI0.glo hp ho
      rcases Nat.lt_or_ge c (2 * L) with hlt | hge
      · obtain ⟨m, g', F3, hm3, hR, hg0, hF⟩ := gl_step hN hs hp hb hk1 hk h hI2 hlt
        have e1 := (hN.2.2 c hlt).1
        have e2 := (hN.2.2 _ (nf_lt hlt)).1
        have key : glo F F3 p b ∧ hJ nn L E (bts s) u g k (c + 1) (fun x => F3 (p + 1) (b + x)) := by
          rcases hF with ⟨f1, f2⟩ | ⟨f1, f2, f3⟩ | ⟨f1, f2, f3⟩
          · subst f2
            refine ⟨ho, hj.1, hj.2.1, fun c' hc' x y h1 h2 => ?_⟩
            by_cases ec : c' = c
            · subst ec
              have := h1.2.1
              rw [show bts s (c' / 2) = s.testBit (c' / 2) from rfl, f1] at this
              cases this
            · exact hj.2.2 c' (by omega) x y h1 h2
          · have he : gc L E (bts s) u c (2 * E c) (2 * E (nf c)) := ⟨hlt, f1, by omega, by omega, by omega⟩
            obtain ⟨r1, r2⟩ := rst_ok hN hk1 hk hj he
            subst f3
            refine ⟨ho.rch (by omega), ?_⟩
            rw [show (fun x => rch F2 (p + 1) b (2 * E c) (2 * E (nf c)) k (p + 1) (b + x)) = rst (fun x => F2 (p + 1) (b + x)) (2 * E c) (2 * E (nf c)) k from funext (fun x => rch_row)]
            refine ⟨r1.1, r1.2.1, fun c' hc' x y h1 h2 => ?_⟩
            by_cases ec : c' = c
            · subst ec
              have hx : x = 2 * E c' := by have a := h1.2.2.1; have b := h1.2.2.2.1; rw [f2] at b; omega
              have hy : y = 2 * E (nf c') := by have a := h1.2.2.2.2; rw [f2] at a; omega
              subst hx
              subst hy
              exact r2 h2
            · exact r1.2.2 c' (by omega) x y h1 h2
          · have he : gc L E (bts s) u c (2 * E c) (2 * E (nf c) + 1) := ⟨hlt, f1, by omega, by omega, by omega⟩
            have he2 : gc L E (bts s) u c (2 * E c + 1) (2 * E (nf c) + 1) := ⟨hlt, f1, by omega, by omega, by omega⟩
            obtain ⟨r1, r2⟩ := rst_ok hN hk1 hk hj he
            obtain ⟨t1, t2⟩ := rst_ok hN hk1 hk r1 he2
            subst f3
            refine ⟨(ho.rch (by omega)).rch (by omega), ?_⟩
            rw [show (fun x => rch (rch F2 (p + 1) b (2 * E c) (2 * E (nf c) + 1) k) (p + 1) b (2 * E c + 1) (2 * E (nf c) + 1) k (p + 1) (b + x)) = rst (rst (fun x => F2 (p + 1) (b + x)) (2 * E c) (2 * E (nf c) + 1) k) (2 * E c + 1) (2 * E (nf c) + 1) k from funext (fun x => by
              rw [rch_row, show (fun z => rch F2 (p + 1) b (2 * E c) (2 * E (nf c) + 1) k (p + 1) (b + z)) = rst (fun x => F2 (p + 1) (b + x)) (2 * E c) (2 * E (nf c) + 1) k from funext (fun x => rch_row)])]
            refine ⟨t1.1, t1.2.1, fun c' hc' x y h1 h2 => ?_⟩
            by_cases ec : c' = c
            · subst ec
              have hy : y = 2 * E (nf c') + 1 := by have a := h1.2.2.2.2; rw [f2] at a; omega
              subst hy
              have hx : x = 2 * E c' ∨ x = 2 * E c' + 1 := by have a := h1.2.2.1; have b := h1.2.2.2.1; rw [f2] at b; omega
              rcases hx with hx | hx
              · subst hx; exact rst_mono hk (r2 h2)
              · subst hx; exact t2 h2
            · exact t1.2.2 c' (by omega) x y h1 h2
        refine ih m hm3 F3 (c + 1) g' hR (by omega) key.1 key.2 (fun z => ?_)
        obtain ⟨z1, z2⟩ := hg0 z
        rw [z2]; exact hgf z1
      · have q := q_Ro_growLevel_5 h
        rw [hI2.1.2.1, b_mul (show 2 * L < 4294967296 by clear q; omega)] at q
        obtain ⟨x1, x2⟩ := q.1 (by rw [b_le (by clear q; omega) (by clear q; omega)]; exact hge)
        clear q
        subst x2
        have hB : ∀ x d, d ≤ k → gd L E (bts s) u g d x → F' (p + 1) (b + x) = d := by
          intro x d hd hx
          by_cases ed : d = k
          · subst ed
            have hx2 := hx
            rw [show d = d - 1 + 1 by omega] at hx2
            obtain ⟨c', y, h1, h2⟩ := gd_pred hx2
            have hne := hj.2.2 c' (by have := h1.1; omega) x y h1 h2
            exact gd_fun (hj.1 x (gc_lt hN h1).1 hne).1 hx
          · exact hj.2.1 x d (by omega) hx
        refine ⟨gf, x1, ho, ⟨hj.1, hB⟩, fun z x hx => ?_⟩
        exact hgf z x (gd_x hN hg hx) (hB x k (Nat.le_refl k) hx)
  refine lp m F 0 0 hR (Nat.zero_le _) glo.rf ⟨fun x hx hne => ?_, fun x d hd hx => h0.2 x d (by omega) hx, fun c' hc' => absurd hc' (Nat.not_lt_zero _)⟩ (fun _ x hx hz => ?_)
  · obtain ⟨a1, a2⟩ := h0.1 x hx hne
    exact ⟨a1, by have : F (p + 1) (b + x) ≤ k - 1 := a2; show F (p + 1) (b + x) ≤ k; omega⟩
  · have := (h0.1 x hx (show F (p + 1) (b + x) ≠ 4294967295 by omega)).2
    have : F (p + 1) (b + x) ≤ k - 1 := this
    omega
/-- a row that tells all distances -/
def hrow (nn L : Nat) (E : Nat → Nat) (st u : Nat → Bool) (g : Nat) (row : Nat → Nat) : Prop := ∀ x, x < 2 * nn → (row x ≠ 4294967295 → gd L E st u g (row x) x) ∧ ∀ d, gd L E st u g d x → row x = d
theorem s_measure (hN : nt_ok nn L E) (hg : g < nn) (hs : s < 2147483648) (hp : 24 ≤ p) {F : fx_F} (hI0 : gli F nn L s p E u) (h : Cl k_Ro_measure [(2, p), (0, g)] F v F') : v = (2, 0) ∧ glo F F' p (20 * g) ∧ hrow nn L E (bts s) u g (fun x => F' (p + 1) (20 * g + x)) := by
  obtain ⟨n, h⟩ := c_Ro_measure h
  obtain ⟨m, hm2, hR⟩ := q_Ro_measure_0 h
  have hL := hN.2.1
  have hn := hN.1
  have eb : g * 20 = 20 * g := Nat.mul_comm _ _
  rw [b_mul (show g * 20 < 4294967296 by omega), eb] at hR
  have fin : ∀ {k : Nat} {row : Nat → Nat}, hI nn L E (bts s) u g k row → (∀ x, ¬ gd L E (bts s) u g (k + 1) x) → hrow nn L E (bts s) u g row := by
    intro k row h1 h2 x hx
    refine ⟨fun hne => (h1.1 x hx hne).1, fun d hd => ?_⟩
    rcases Nat.lt_or_ge k d with z | z
    · exact absurd hd (gd_none h2 d z x)
    · exact h1.2 x d z hd
  -- levels
  have lv : ∀ (n : Nat) (F2 : fx_F) (k gf : Nat), Rn n k_Ro_measure 57 [(2, p), (3, 0), (0, 20 * g), (0, gf), (0, k)] [] F2 v F' → 1 ≤ k → k ≤ 21 → glo F F2 p (20 * g) → hI nn L E (bts s) u g (k - 1) (fun x => F2 (p + 1) (20 * g + x)) → (gf = 0 → ∀ x, ¬ gd L E (bts s) u g (k - 1) x) → v = (2, 0) ∧ glo F F' p (20 * g) ∧ hrow nn L E (bts s) u g (fun x => F' (p + 1) (20 * g + x)) := by
    intro n
    induction n using Nat.strongRecOn with
    | ind n ih =>
      intro F2 k gf h hk1 hk ho hi hz
      have q := q_Ro_measure_57 h
      by_cases e : k = 21
      · obtain ⟨x1, x2⟩ := q.1 (by rw [b_lt (by omega) (by omega)]; omega)
        clear q
        subst x2
        refine ⟨x1, ho, fin hi (fun x hx => ?_)⟩
        have := gd_lt hN hg hx
        omega
      · replace q := q.2 (by rw [b_le (by omega) (by omega)]; omega)
        by_cases eg : gf = 0
        · obtain ⟨x1, x2⟩ := q.1 eg
          clear q
          subst x2
          refine ⟨x1, ho, fin hi (fun x hx => ?_)⟩
          exact gd_none (hz eg) _ (by omega) x hx
        · obtain ⟨n1, F1, c1, m, hm3, hR⟩ := q.2 eg
          clear q
          rw [b_add (show k + 1 < 4294967296 by omega)] at hR
          obtain ⟨gf', y1, y2, y3, y4⟩ := s_growLevel hN hg hs hp (show 20 * g ≤ 200 by omega) hk1 (by omega) (hI0.glo hp ho) hi c1
          cases y1
          exact ih m hm3 F1 (k + 1) _ hR (by omega) (by omega) (ho.tr y2) y3 y4
  -- the row is emptied
  have l0 : ∀ (n : Nat) (F2 : fx_F) (i : Nat), Rn n k_Ro_measure 7 [(2, p), (0, g), (0, 20 * g), (0, i), (3, 0)] [] F2 v F' → i ≤ 20 → glo F F2 p (20 * g) → (∀ x, x < i → F2 (p + 1) (20 * g + x) = 4294967295) → v = (2, 0) ∧ glo F F' p (20 * g) ∧ hrow nn L E (bts s) u g (fun x => F' (p + 1) (20 * g + x)) := by
    intro n
    induction n using Nat.strongRecOn with
    | ind n ih =>
      intro F2 i h hi ho hx
      have q := q_Ro_measure_7 h
      rcases Nat.lt_or_ge i 20 with hlt | hge
      · obtain ⟨m, hm3, hR⟩ := q.2 (by rw [b_lt (by omega) (by omega)]; exact hlt)
        clear q
        rw [b_add (show i + 1 < 4294967296 by omega), b_add (show 20 * g + i < 4294967296 by omega)] at hR
        refine ih m hm3 _ (i + 1) hR (by omega) (ho.wr hlt) (fun x hx2 => ?_)
        by_cases e : x = i
        · subst e; rw [fu_same]
        · rw [fu_i (by omega)]; exact hx x (by omega)
      · obtain ⟨m, hm3, hR⟩ := q.1 (by rw [b_le (by omega) (by omega)]; exact hge)
        clear q
        rw [b_mul (show 2 * g < 4294967296 by omega), b_add (show 20 * g + 2 * g < 4294967296 by omega), b_add (show 20 * g + 2 * g + 1 < 4294967296 by omega), Nat.add_assoc (20 * g) (2 * g) 1] at hR
        refine lv m _ 1 1 hR (Nat.le_refl 1) (by omega) ((ho.wr (by omega)).wr (by omega)) ⟨fun x hx2 hne => ?_, fun x d hd hg2 => ?_⟩ (fun z => by cases z)
        · have hne : (fu (fu F2 (p + 1) (20 * g + 2 * g) 0) (p + 1) (20 * g + (2 * g + 1)) 0) (p + 1) (20 * g + x) ≠ 4294967295 := hne
          show gd L E (bts s) u g ((fu (fu F2 (p + 1) (20 * g + 2 * g) 0) (p + 1) (20 * g + (2 * g + 1)) 0) (p + 1) (20 * g + x)) x ∧ (fu (fu F2 (p + 1) (20 * g + 2 * g) 0) (p + 1) (20 * g + (2 * g + 1)) 0) (p + 1) (20 * g + x) ≤ 0
          have g0 : x / 2 = g → gd L E (bts s) u g 0 x := fun z => ⟨z, fun e he => absurd he (Nat.not_lt_zero _)⟩
          by_cases e1 : x = 2 * g + 1
          · subst e1; rw [fu_same]; exact ⟨g0 (by omega), Nat.le_refl 0⟩
          · rw [fu_i (by omega)] at hne ⊢
            by_cases e2 : x = 2 * g
            · subst e2; rw [fu_same]; exact ⟨g0 (by omega), Nat.le_refl 0⟩
            · rw [fu_i (by omega)] at hne
              exact absurd (hx x (by omega)) hne
        · have hd0 : d = 0 := by omega
          subst hd0
          have : x / 2 = g := hg2.1
          show (fu (fu F2 (p + 1) (20 * g + 2 * g) 0) (p + 1) (20 * g + (2 * g + 1)) 0) (p + 1) (20 * g + x) = 0
          by_cases e1 : x = 2 * g + 1
          · subst e1; rw [fu_same]
          · rw [fu_i (by omega), show x = 2 * g by omega, fu_same]
  exact l0 m F 0 hR (Nat.zero_le _) glo.rf (fun x hx => absurd hx (Nat.not_lt_zero _))
/-- a cache of ways: what is measured is right -/
def rci (F : fx_F) (nn L : Nat) (E : Nat → Nat) (p : Nat) : Prop := F p 1 < 2147483648 ∧ F p 2 < 2147483648 ∧ (F p 3 ≠ 0 → (∀ c, c < 2 * L → F (p + 5) c = bh (bts (F p 1)) c) ∧ ∀ g, g < nn → hrow nn L E (bts (F p 2)) (bts (F p 1)) g (fun x => F (p + 1) (20 * g + x)))
/-- seen with the rules up and the links s -/
def rcs (F : fx_F) (nn L : Nat) (E : Nat → Nat) (p up s : Nat) : Prop := F p 1 = up ∧ F p 2 = s ∧ F p 3 ≠ 0 ∧ (∀ c, c < 2 * L → F (p + 5) c = bh (bts up) c) ∧ ∀ g, g < nn → hrow nn L E (bts s) (bts up) g (fun x => F (p + 1) (20 * g + x))
theorem bh_code {up c : Nat} (hu : up < 2147483648) (hc : c < 64) : (i_and (i_shr up (i_shr c 1)) 1 = i_and c 1 → bh (bts up) c = 1) ∧ (i_and (i_shr up (i_shr c 1)) 1 ≠ i_and c 1 → bh (bts up) c = 0) := by
  rw [b_bit hu hc, b_and1]
  unfold bh isup
  show ((if up.testBit (c / 2) = true then 1 else 0) = c % 2 → _) ∧ _
  rcases Nat.mod_two_eq_zero_or_one c with z | z
  · rw [if_pos z, z]
    show (_ → (if up.testBit (c / 2) = true then 0 else 1) = 1) ∧ (_ → (if up.testBit (c / 2) = true then 0 else 1) = 0)
    cases up.testBit (c / 2)
    · exact ⟨fun _ => rfl, fun y => absurd rfl y⟩
    · exact ⟨fun y => absurd y (by decide), fun _ => rfl⟩
  · rw [if_neg (show ¬ c % 2 = 0 by omega), z]
    show (_ → (if (!up.testBit (c / 2)) = true then 0 else 1) = 1) ∧ (_ → (if (!up.testBit (c / 2)) = true then 0 else 1) = 0)
    cases up.testBit (c / 2)
    · exact ⟨fun y => absurd y (by decide), fun _ => rfl⟩
    · exact ⟨fun _ => rfl, fun y => absurd rfl y⟩
theorem s_see (hN : nt_ok nn L E) {up : Nat} (hu : up < 2147483648) (hs : s < 2147483648) (hp : 24 ≤ p) {F : fx_F} (hc : cn F nn L E) (hr : rci F nn L E p) (h : Cl k_Ro_see [(2, p), (0, up), (0, s)] F v F') : v = (2, 0) ∧ fxo [p, p + 1, p + 5] F F' ∧ rcs F' nn L E p up s ∧ (F' = F ∨ F' p 4 = 0) := by
  obtain ⟨n, h⟩ := c_Ro_see h
  have hL := hN.2.1
  have hn := hN.1
  have q := q_Ro_see_0 h
  have s36 : ∀ (n : Nat), Rn n k_Ro_see 36 [(2, p), (3, 0), (3, 0), (0, 0)] [] (fu (fu F p 1 up) p 2 s) v F' → v = (2, 0) ∧ fxo [p, p + 1, p + 5] F F' ∧ rcs F' nn L E p up s ∧ (F' = F ∨ F' p 4 = 0) := by
    clear q
    have l2 : ∀ (n : Nat) (F2 : fx_F) (g : Nat), Rn n k_Ro_see 77 [(2, p), (3, 0), (3, 0), (0, g)] [] F2 v F' → g ≤ nn → fxo [p, p + 1, p + 5] F F2 → gli F2 nn L s p E (bts up) → F2 p 1 = up → (∀ g', g' < g → hrow nn L E (bts s) (bts up) g' (fun x => F2 (p + 1) (20 * g' + x))) → v = (2, 0) ∧ fxo [p, p + 1, p + 5] F F' ∧ rcs F' nn L E p up s ∧ (F' = F ∨ F' p 4 = 0) := by
      intro n
      induction n using Nat.strongRecOn with
      | ind n ih =>
        intro F2 g h hg ho hI h1 hA
        have q := q_Ro_see_77 h
        rw [hI.1.1] at q
        rcases Nat.lt_or_ge g nn with hlt | hge
        · obtain ⟨F1, c1, m, hm3, hR⟩ := q.2 (by rw [b_lt (by omega) (by omega)]; exact hlt)
          clear q
          rw [b_add (show g + 1 < 4294967296 by omega)] at hR
          obtain ⟨-, y2, y3⟩ := s_measure hN hlt hs hp hI c1
          refine ih m hm3 F1 (g + 1) hR (by omega) (ho.tr (y2.1.mono (by simp))) (hI.glo hp y2) ((y2.1 p 1 (by simp)).trans h1) (fun g' hg' => ?_)
          by_cases e : g' = g
          · subst e; exact y3
          · intro x hx
            have := hA g' (by omega) x hx
            show (F1 (p + 1) (20 * g' + x) ≠ 4294967295 → gd L E (bts s) (bts up) g' (F1 (p + 1) (20 * g' + x)) x) ∧ ∀ d, gd L E (bts s) (bts up) g' d x → F1 (p + 1) (20 * g' + x) = d
            rw [y2.2 (20 * g' + x) (by omega)]
            exact this
        · obtain ⟨x1, x2⟩ := q.1 (by rw [b_le (by omega) (by omega)]; exact hge)
          clear q
          subst x2
          refine ⟨x1, (ho.wr (by simp)).wr (by simp), ⟨?_, ?_, ?_, fun c hc => ?_, fun g' hg' x hx => ?_⟩, Or.inr fu_same⟩
          · rw [fu_i (by omega), fu_i (by omega)]; exact h1
          · rw [fu_i (by omega), fu_i (by omega)]; exact hI.2.1
          · rw [fu_i (by omega), fu_same]; decide
          · rw [fu_p (by omega), fu_p (by omega)]; exact hI.2.2 c hc
          · have := hA g' (by omega) x hx
            show ((fu (fu F2 p 3 1) p 4 0) (p + 1) (20 * g' + x) ≠ 4294967295 → gd L E (bts s) (bts up) g' ((fu (fu F2 p 3 1) p 4 0) (p + 1) (20 * g' + x)) x) ∧ ∀ d, gd L E (bts s) (bts up) g' d x → (fu (fu F2 p 3 1) p 4 0) (p + 1) (20 * g' + x) = d
            rw [fu_p (by omega), fu_p (by omega)]
            exact this
    have l1 : ∀ (n : Nat) (F2 : fx_F) (c : Nat), Rn n k_Ro_see 36 [(2, p), (3, 0), (3, 0), (0, c)] [] F2 v F' → c ≤ 2 * L → fxo [p, p + 1, p + 5] F F2 → F2 p 1 = up → F2 p 2 = s → (∀ c', c' < c → F2 (p + 5) c' = bh (bts up) c') → v = (2, 0) ∧ fxo [p, p + 1, p + 5] F F' ∧ rcs F' nn L E p up s ∧ (F' = F ∨ F' p 4 = 0) := by
      intro n
      induction n using Nat.strongRecOn with
      | ind n ih =>
        intro F2 c h hc2 ho h1 h2 hA
        have q := q_Ro_see_36 h
        have hcn := hc.keep ho (by simp; omega) (by simp; omega) (by simp; omega)
        rw [hcn.2.1, b_mul (show 2 * L < 4294967296 by clear q; omega), h1] at q
        rcases Nat.lt_or_ge c (2 * L) with hlt | hge
        · replace q := q.2 (by rw [b_lt (by clear q; omega) (by clear q; omega)]; exact hlt)
          rw [b_add (show c + 1 < 4294967296 by clear q; omega)] at q
          have hbc := bh_code hu (show c < 64 by clear q; omega)
          have nx : ∀ z m, bh (bts up) c = z → m < n → Rn m k_Ro_see 36 [(2, p), (3, 0), (3, 0), (0, c + 1)] [] (fu F2 (p + 5) c z) v F' → v = (2, 0) ∧ fxo [p, p + 1, p + 5] F F' ∧ rcs F' nn L E p up s ∧ (F' = F ∨ F' p 4 = 0) := by
            clear q
            intro z m hz hm3 hR
            refine ih m hm3 _ (c + 1) hR (by omega) (ho.wr (by simp)) ((fu_p (by omega)).trans h1) ((fu_p (by omega)).trans h2) (fun c' hc' => ?_)
            by_cases e : c' = c
            · subst e; rw [fu_same]; exact hz.symm
            · rw [fu_i (by omega)]; exact hA c' (by omega)
          by_cases e : i_and (i_shr up (i_shr c 1)) 1 = i_and c 1
          · obtain ⟨m, hm3, hR⟩ := q.1 e
            exact nx 1 m (hbc.1 e) hm3 hR
          · obtain ⟨m, hm3, hR⟩ := q.2 e
            exact nx 0 m (hbc.2 e) hm3 hR
        · obtain ⟨m, hm3, hR⟩ := q.1 (by rw [b_le (by clear q; omega) (by clear q; omega)]; exact hge)
          exact l2 m F2 0 hR (Nat.zero_le _) ho ⟨hcn, h2, fun c' hc' => hA c' (by omega)⟩ h1 (fun g' hg' => absurd hg' (Nat.not_lt_zero _))
    intro n h
    exact l1 n _ 0 h (Nat.zero_le _) ((fxo.rf.wr (by simp)).wr (by simp)) ((fu_i (by omega)).trans fu_same) fu_same (fun c' hc' => absurd hc' (Nat.not_lt_zero _))
  by_cases e3 : F p 3 = 0
  · obtain ⟨m, hm3, hR⟩ := q.1 e3
    exact s36 m hR
  · replace q := q.2 e3
    by_cases e1 : F p 1 = up
    · replace q := q.2 e1
      by_cases e2 : F p 2 = s
      · obtain ⟨x1, x2⟩ := q.2 e2
        subst x2
        obtain ⟨r1, r2⟩ := hr.2.2 e3
        rw [e1] at r1 r2
        rw [e2] at r2
        exact ⟨x1, fxo.rf, ⟨e1, e2, e3, r1, r2⟩, Or.inl rfl⟩
      · obtain ⟨m, hm3, hR⟩ := q.1 e2
        exact s36 m hR
    · obtain ⟨m, hm3, hR⟩ := q.1 e1
      exact s36 m hR
end SEE
end
