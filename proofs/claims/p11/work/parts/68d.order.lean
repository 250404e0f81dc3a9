/-! Degrees, ranks, up ends -/
def cnt (p : Nat → Bool) : Nat → Nat
  | 0 => 0
  | n + 1 => cnt p n + if p n then 1 else 0
theorem cnt_le (p : Nat → Bool) : ∀ n, cnt p n ≤ n
  | 0 => Nat.le_refl 0
  | n + 1 => by
    have := cnt_le p n
    show cnt p n + (if p n then 1 else 0) ≤ n + 1
    split <;> omega
theorem cnt_congr {p q : Nat → Bool} : ∀ {n : Nat}, (∀ i, i < n → p i = q i) → cnt p n = cnt q n
  | 0, _ => rfl
  | n + 1, h => by
    show cnt p n + (if p n then 1 else 0) = cnt q n + (if q n then 1 else 0)
    rw [cnt_congr (fun i hi => h i (by omega)), h n (by omega)]
/-- how many channels that stand begin at v -/
noncomputable def dgc (E : Nat → Nat) (st : Nat → Bool) (v k : Nat) : Nat := cnt (fun c => st (c / 2) && Nat.beq (E c) v) k
/-- what an operation of a formula does -/
noncomputable def wop (c x y : Nat) : Nat := if c = 1003 then i_add x y else if c = 1004 then i_sub x y else if c = 1005 then i_mul x y else if c = 1006 then (if y = 0 then 0 else i_div x y) else (if y = 0 then 0 else i_rem x y)
noncomputable def ev1 (fa vv dg c : Nat) (s : Nat × (Nat → Nat)) : Nat × (Nat → Nat) := if c = 1008 then (s.1, fun j => if j = s.1 - 1 then i_neg (s.2 (s.1 - 1)) else s.2 j) else if 1003 ≤ c then (s.1 - 1, fun j => if j = s.1 - 2 then wop c (s.2 (s.1 - 2)) (s.2 (s.1 - 1)) else s.2 j) else (s.1 + 1, fun j => if j = s.1 then (if c = 1000 then fa else if c = 1001 then vv else if c = 1002 then dg else c) else s.2 j)
/-- behind the first k codes -/
noncomputable def evk (fa vv dg : Nat) (C : Nat → Nat) : Nat → Nat × (Nat → Nat)
  | 0 => (0, fun _ => 0)
  | k + 1 => ev1 fa vv dg (C k) (evk fa vv dg C k)
/-- the height of the stack: it hangs on the codes alone -/
def hgt (C : Nat → Nat) : Nat → Nat
  | 0 => 0
  | k + 1 => if C k = 1008 then hgt C k else if 1003 ≤ C k then hgt C k - 1 else hgt C k + 1
theorem evk_h (fa vv dg : Nat) (C : Nat → Nat) : ∀ k, (evk fa vv dg C k).1 = hgt C k
  | 0 => rfl
  | k + 1 => by
    have ih := evk_h fa vv dg C k
    show (ev1 fa vv dg (C k) (evk fa vv dg C k)).1 = (if C k = 1008 then hgt C k else if 1003 ≤ C k then hgt C k - 1 else hgt C k + 1)
    unfold ev1
    split
    · exact ih
    · split
      · rw [← ih]
      · rw [← ih]
theorem hgt_le (C : Nat → Nat) : ∀ k, hgt C k ≤ k
  | 0 => Nat.le_refl 0
  | k + 1 => by
    have ih := hgt_le C k
    show (if C k = 1008 then hgt C k else if 1003 ≤ C k then hgt C k - 1 else hgt C k + 1) ≤ k + 1
    split
    · omega
    · split <;> omega
/-- a formula's code: nothing is taken from where nothing lies -/
def cd_ok (C : Nat → Nat) (N : Nat) : Prop := N ≤ 80 ∧ ∀ k, k < N → (C k ≤ 1008 ∧ (C k = 1008 → 1 ≤ hgt C k) ∧ (1003 ≤ C k → C k ≠ 1008 → 2 ≤ hgt C k) ∧ (C k < 1003 → C k ≤ 1002))
noncomputable def rk (C : Nat → Nat) (N : Nat) (far deg : Nat → Nat) (v : Nat) : Nat := if N = 0 then far v else (evk (far v) v (deg v) C N).2 0
/-- how the class tells a code -/
def cop (c : Nat) : Nat := if c = 1000 then 2 else if c = 1001 then 3 else if c = 1002 then 4 else if c = 1003 then 43 else if c = 1004 then 45 else if c = 1005 then 42 else if c = 1006 then 47 else if c = 1007 then 37 else if c = 1008 then 5 else 1
def cc (F : fx_F) (C : Nat → Nat) (N : Nat) : Prop := F 3 5 = N ∧ ∀ k, k < N → F 8 k = cop (C k) ∧ (C k < 1000 → F 9 k = C k)
/-- who is above -/
noncomputable def abv (R : Nat → Nat) (x y : Nat) : Prop := s_lt (R x) (R y) ∨ (R x = R y ∧ x < y)
section ORD
variable {nn L s r : Nat} {E : Nat → Nat} {v : fx_V} {F' : fx_F} {C : Nat → Nat} {N : Nat}
theorem cl28 (hN : nt_ok nn L E) (hs : s < 2147483648) : ∀ (n : Nat) (F : fx_F) (c : Nat), Rn n k_Or_countLinks 28 [(2, 19), (0, s), (0, c)] [] F v F' → cn F nn L E → c ≤ 2 * L → (∀ u, u < nn → F 21 u = dgc E (fun l => s.testBit l) u c) → fxo [21] F F' ∧ ∀ u, u < nn → F' 21 u = dgc E (fun l => s.testBit l) u (2 * L) := by
  intro n
  induction n using Nat.strongRecOn with
  | ind n ih =>
    intro F c h hc hcL hI
    have q := q_Or_countLinks_28 h
    have hL := hN.2.1
    have hn := hN.1
    rw [hc.2.1, b_mul (by omega)] at q
    rcases Nat.lt_or_ge c (2 * L) with hl | hl
    · replace q := q.2 (by rw [b_lt (by omega) (by omega)]; exact hl)
      rw [b_bit hs (by omega), (hc.2.2 c hl).1, b_add (show c + 1 < 4294967296 by omega)] at q
      have hE1 := (hN.2.2 c hl).1
      cases hb : s.testBit (c / 2) with
      | false =>
        rw [hb] at q
        obtain ⟨m, hm, hR⟩ := q.1 (by decide)
        refine ih m hm F (c + 1) hR hc (by omega) (fun u hu => ?_)
        rw [hI u hu]
        show dgc E (fun l => s.testBit l) u c = dgc E (fun l => s.testBit l) u c + (if (s.testBit (c / 2) && Nat.beq (E c) u) then 1 else 0)
        rw [hb]
        rfl
      | true =>
        rw [hb] at q
        obtain ⟨m, hm, hR⟩ := q.2 rfl
        have hd := hI (E c) hE1
        have hle : dgc E (fun l => s.testBit l) (E c) c ≤ c := cnt_le _ c
        rw [b_add (show F 21 (E c) + 1 < 4294967296 by omega)] at hR
        have ho : fxo [21] F (fu F 21 (E c) (F 21 (E c) + 1)) := fxo.rf.wr List.mem_cons_self
        obtain ⟨r1, r2⟩ := ih m hm _ (c + 1) hR (hc.keep ho (by decide) (by decide) (by decide)) (by omega) (fun u hu => by
          show _ = dgc E (fun l => s.testBit l) u c + (if (s.testBit (c / 2) && Nat.beq (E c) u) then 1 else 0)
          rw [hb, Bool.true_and]
          by_cases hz : u = E c
          · subst hz
            rw [fu_same, Nat.beq_refl, if_pos rfl, hd]
          · rw [fu_i hz, show Nat.beq (E c) u = false from Bool.eq_false_iff.mpr (fun z => hz (rx_beq.mp z).symm), hI u hu]
            rfl)
        exact ⟨ho.tr r1, r2⟩
    · obtain ⟨-, e⟩ := q.1 (by rw [b_le (by omega) (by omega)]; exact hl)
      subst e
      have : c = 2 * L := by omega
      rw [← this]
      exact ⟨fxo.rf, hI⟩
theorem s_countLinks (hN : nt_ok nn L E) (hs : s < 2147483648) {F : fx_F} (hc : cn F nn L E) (h : Cl k_Or_countLinks [(2, 19), (0, s)] F v F') : fxo [21] F F' ∧ ∀ u, u < nn → F' 21 u = dgc E (fun l => s.testBit l) u (2 * L) := by
  obtain ⟨n, h⟩ := c_Or_countLinks h
  have hL := hN.2.1
  have hn := hN.1
  obtain ⟨m, hm, hR⟩ := q_Or_countLinks_0 h
  have lp : ∀ (n : Nat) (F : fx_F) (i : Nat), Rn n k_Or_countLinks 2 [(2, 19), (0, s), (0, i)] [] F v F' → cn F nn L E → i ≤ nn → (∀ u, u < i → F 21 u = 0) → fxo [21] F F' ∧ ∀ u, u < nn → F' 21 u = dgc E (fun l => s.testBit l) u (2 * L) := by
    intro n
    induction n using Nat.strongRecOn with
    | ind n ih =>
      intro F i h hc hi hI
      have q := q_Or_countLinks_2 h
      rw [hc.1] at q
      rcases Nat.lt_or_ge i nn with hl | hl
      · obtain ⟨m, hm, hR⟩ := q.2 (by rw [b_lt (by omega) (by omega)]; exact hl)
        rw [b_add (show i + 1 < 4294967296 by omega)] at hR
        have ho : fxo [21] F (fu F 21 i 0) := fxo.rf.wr List.mem_cons_self
        obtain ⟨r1, r2⟩ := ih m hm _ (i + 1) hR (hc.keep ho (by decide) (by decide) (by decide)) (by omega) (fun u hu => by
          by_cases hz : u = i
          · rw [hz, fu_same]
          · rw [fu_i hz]; exact hI u (by omega))
        exact ⟨ho.tr r1, r2⟩
      · obtain ⟨m, hm, hR⟩ := q.1 (by rw [b_le (by omega) (by omega)]; exact hl)
        exact cl28 hN hs m F 0 hR hc (Nat.zero_le _) (fun u hu => hI u (by omega))
  exact lp m F 0 hR hc (Nat.zero_le _) (fun u hu => absurd hu (Nat.not_lt_zero _))
/-- the stack lies in an array -/
noncomputable def stk (A : Nat → Nat) (s : Nat × (Nat → Nat)) : Prop := ∀ j, j < s.1 → A j = s.2 j
theorem fxl23 : fx_len fx_w 23 = 80 := by decide +kernel
theorem ev4 {u fa dg : Nat} (hC : cd_ok C N) (hu : u < 10) : ∀ (n : Nat) (F : fx_F) (k : Nat), Rn n k_Or_evaluate 4 [(2, 19), (0, u), (0, hgt C k), (0, k), (3, 0)] [] F v F' → cc F C N → F 20 u = fa → F 21 u = dg → k ≤ N → stk (F 23) (evk fa u dg C k) → ∃ x, v = (0, x) ∧ fxo [23] F F' ∧ (0 < hgt C N → x = (evk fa u dg C N).2 0) := by
  intro n
  induction n using Nat.strongRecOn with
  | ind n ih =>
    intro F k h hc hfa hdg hk hI
    have q := q_Or_evaluate_4 h
    have hN := hC.1
    have hle := hgt_le C k
    rw [hc.1] at q
    rcases Nat.lt_or_ge k N with hl | hl
    · replace q := q.2 (by rw [b_lt (by omega) (by omega)]; exact hl)
      obtain ⟨o1, o2, o3, o4⟩ := hC.2 k hl
      obtain ⟨p1, p2⟩ := hc.2 k hl
      rw [p1, b_add (show k + 1 < 4294967296 by omega)] at q
      have go : ∀ (F2 : fx_F), (∃ m, m < n ∧ Rn m k_Or_evaluate 4 [(2, 19), (0, u), (0, hgt C (k + 1)), (0, k + 1), (3, 0)] [] F2 v F') → fxo [23] F F2 → stk (F2 23) (evk fa u dg C (k + 1)) → ∃ x, v = (0, x) ∧ fxo [23] F F' ∧ (0 < hgt C N → x = (evk fa u dg C N).2 0) := by
        intro F2 ⟨m, hm, hR⟩ ho hS
        have e : ∀ q i, q ≠ 23 → F2 q i = F q i := fun q i hq => ho q i (fun z => hq (List.mem_singleton.mp z))
        obtain ⟨x, r1, r2, r3⟩ := ih m hm F2 (k + 1) hR ⟨(e 3 5 (by decide)).trans hc.1, fun j hj => by rw [e 8 j (by decide), e 9 j (by decide)]; exact hc.2 j hj⟩ ((e 20 u (by decide)).trans hfa) ((e 21 u (by decide)).trans hdg) (by omega) hS
        exact ⟨x, r1, ho.tr r2, r3⟩
      have hw : ∀ j x, fxo [23] F (fu F 23 j x) := fun j x => fxo.rf.wr List.mem_cons_self
      have hh := evk_h fa u dg C k
      have hst : ∀ j, j < hgt C k → F 23 j = (evk fa u dg C k).2 j := fun j hj => hI j (by rw [hh]; exact hj)
      by_cases hm8 : C k = 1008
      · -- minus
        have h1 := o2 hm8
        have e1 : hgt C (k + 1) = hgt C k := by show (if C k = 1008 then hgt C k else _) = _; rw [if_pos hm8]
        have e2 : evk fa u dg C (k + 1) = ((evk fa u dg C k).1, fun j => if j = (evk fa u dg C k).1 - 1 then i_neg ((evk fa u dg C k).2 ((evk fa u dg C k).1 - 1)) else (evk fa u dg C k).2 j) := by
          show ev1 fa u dg (C k) (evk fa u dg C k) = _
          unfold ev1
          rw [if_pos hm8]
        rw [hm8] at q
        replace q := (q.2 rfl).2 (by rw [b_le (by decide) (by omega)]; exact h1)
        rw [b_sub h1 (by omega)] at q
        refine go _ (by rw [e1]; exact q) (hw _ _) ?_
        rw [e2, hh]
        intro j hj
        show fu F 23 (hgt C k - 1) _ 23 j = if j = hgt C k - 1 then _ else _
        by_cases hz : j = hgt C k - 1
        · rw [if_pos hz, hz, fu_same, hst _ (by omega)]
        · rw [if_neg hz, fu_i hz]
          exact hst j hj
      · by_cases hb3 : 1003 ≤ C k
        · -- an operation
          have h2 := o3 hb3 hm8
          have e1 : hgt C (k + 1) = hgt C k - 1 := by show (if C k = 1008 then hgt C k else if 1003 ≤ C k then hgt C k - 1 else _) = _; rw [if_neg hm8, if_pos hb3]
          have e2 : evk fa u dg C (k + 1) = ((evk fa u dg C k).1 - 1, fun j => if j = (evk fa u dg C k).1 - 2 then wop (C k) ((evk fa u dg C k).2 ((evk fa u dg C k).1 - 2)) ((evk fa u dg C k).2 ((evk fa u dg C k).1 - 1)) else (evk fa u dg C k).2 j) := by
            show ev1 fa u dg (C k) (evk fa u dg C k) = _
            unfold ev1
            rw [if_neg hm8, if_pos hb3]
          have hx := hst (hgt C k - 2) (by omega)
          have hy := hst (hgt C k - 1) (by omega)
          have hi1 : i_add (hgt C k) 4294967295 = hgt C k - 1 := b_dec (by omega) (by omega)
          have hi2 : i_sub (hgt C k - 1) 1 = hgt C k - 2 := by rw [b_sub (by omega) (by omega)]; omega
          have fin : ∀ F2, F2 = fu F 23 (hgt C k - 2) (wop (C k) (F 23 (hgt C k - 2)) (F 23 (hgt C k - 1))) → (∃ m, m < n ∧ Rn m k_Or_evaluate 4 [(2, 19), (0, u), (0, hgt C k - 1), (0, k + 1), (3, 0)] [] F2 v F') → ∃ x, v = (0, x) ∧ fxo [23] F F' ∧ (0 < hgt C N → x = (evk fa u dg C N).2 0) := by
            intro F2 eF q
            subst eF
            refine go _ (by rw [e1]; exact q) (hw _ _) ?_
            rw [e2, hh]
            intro j hj
            replace hj : j < hgt C k - 1 := hj
            show fu F 23 (hgt C k - 2) _ 23 j = if j = hgt C k - 2 then _ else _
            by_cases hz : j = hgt C k - 2
            · rw [if_pos hz, hz, fu_same, hx, hy]
            · rw [if_neg hz, fu_i hz]
              exact hst j (by omega)
          have hcs : C k = 1003 ∨ C k = 1004 ∨ C k = 1005 ∨ C k = 1006 ∨ C k = 1007 := by clear q; omega
          rw [hi1, hi2] at q
          rcases hcs with e | e | e | e | e <;> rw [e] at q fin <;> unfold wop at fin
          · replace q := (((q.1 (by decide)).1 (by rw [b_le (by decide) (by decide)]; decide)).2 (by rw [b_le (by decide) (by omega)]; exact h2)).2.2.1 rfl
            exact fin _ (by rw [if_pos rfl]) q
          · replace q := (((q.1 (by decide)).1 (by rw [b_le (by decide) (by decide)]; decide)).2 (by rw [b_le (by decide) (by omega)]; exact h2)).2.2.2.2.1 rfl
            exact fin _ (by rw [if_neg (by decide), if_pos rfl]) q
          · replace q := (((q.1 (by decide)).1 (by rw [b_le (by decide) (by decide)]; decide)).2 (by rw [b_le (by decide) (by omega)]; exact h2)).2.1 rfl
            exact fin _ (by rw [if_neg (by decide), if_neg (by decide), if_pos rfl]) q
          · replace q := (((q.1 (by decide)).1 (by rw [b_le (by decide) (by decide)]; decide)).2 (by rw [b_le (by decide) (by omega)]; exact h2)).2.2.2.2.2.2.1 rfl
            by_cases hy0 : F 23 (hgt C k - 1) = 0
            · exact fin _ (by rw [if_neg (by decide), if_neg (by decide), if_neg (by decide), if_pos rfl, if_pos hy0]) (q.2 hy0)
            · exact fin _ (by rw [if_neg (by decide), if_neg (by decide), if_neg (by decide), if_pos rfl, if_neg hy0]) (q.1 hy0)
          · replace q := (((q.1 (by decide)).1 (by rw [b_le (by decide) (by decide)]; decide)).2 (by rw [b_le (by decide) (by omega)]; exact h2)).1 (Or.inl (by decide))
            by_cases hy0 : F 23 (hgt C k - 1) = 0
            · exact fin _ (by rw [if_neg (by decide), if_neg (by decide), if_neg (by decide), if_neg (by decide), if_pos hy0]) (q.2 hy0)
            · exact fin _ (by rw [if_neg (by decide), if_neg (by decide), if_neg (by decide), if_neg (by decide), if_neg hy0]) (q.1 hy0)
        · -- a unit
          have e1 : hgt C (k + 1) = hgt C k + 1 := by show (if C k = 1008 then hgt C k else if 1003 ≤ C k then hgt C k - 1 else hgt C k + 1) = _; rw [if_neg hm8, if_neg hb3]
          have e2 : evk fa u dg C (k + 1) = ((evk fa u dg C k).1 + 1, fun j => if j = (evk fa u dg C k).1 then (if C k = 1000 then fa else if C k = 1001 then u else if C k = 1002 then dg else C k) else (evk fa u dg C k).2 j) := by
            show ev1 fa u dg (C k) (evk fa u dg C k) = _
            unfold ev1
            rw [if_neg hm8, if_neg hb3]
          rw [fxl23, hfa, hdg, b_add (show hgt C k + 1 < 4294967296 by omega)] at q
          have fin : ∀ x, x = (if C k = 1000 then fa else if C k = 1001 then u else if C k = 1002 then dg else C k) → (∃ m, m < n ∧ Rn m k_Or_evaluate 4 [(2, 19), (0, u), (0, hgt C k + 1), (0, k + 1), (3, 0)] [] (fu F 23 (hgt C k) x) v F') → ∃ x, v = (0, x) ∧ fxo [23] F F' ∧ (0 < hgt C N → x = (evk fa u dg C N).2 0) := by
            intro x ex q
            refine go _ (by rw [e1]; exact q) (hw _ _) ?_
            rw [e2, hh]
            intro j hj
            replace hj : j < hgt C k + 1 := hj
            show fu F 23 (hgt C k) _ 23 j = if j = hgt C k then _ else _
            by_cases hz : j = hgt C k
            · rw [if_pos hz, hz, fu_same, ex]
            · rw [if_neg hz, fu_i hz]
              exact hst j (by omega)
          have h80 : s_lt (hgt C k) 80 := by rw [b_lt (by omega) (by decide)]; omega
          by_cases z0 : C k = 1000
          · rw [z0] at q fin
            replace q := ((((q.1 (by decide)).2 (by show s_lt 2 5; rw [b_lt (by decide) (by decide)]; decide)).2 h80).2.1 rfl)
            exact fin _ (by rw [if_pos rfl]) q
          by_cases z1 : C k = 1001
          · rw [z1] at q fin
            replace q := ((((q.1 (by decide)).2 (by show s_lt 3 5; rw [b_lt (by decide) (by decide)]; decide)).2 h80).2.2.1 rfl)
            exact fin _ (by rw [if_neg (by decide), if_pos rfl]) q
          by_cases z2 : C k = 1002
          · rw [z2] at q fin
            replace q := ((((q.1 (by decide)).2 (by show s_lt 4 5; rw [b_lt (by decide) (by decide)]; decide)).2 h80).2.2.2.1 rfl)
            exact fin _ (by rw [if_neg (by decide), if_neg (by decide), if_pos rfl]) q
          have hlt : C k < 1000 := by clear q; omega
          have ecop : cop (C k) = 1 := by
            unfold cop
            rw [if_neg z0, if_neg z1, if_neg z2, if_neg (by omega), if_neg (by omega), if_neg (by omega), if_neg (by omega), if_neg (by omega), if_neg (by omega)]
          rw [ecop, p2 hlt] at q
          replace q := (((q.1 (by decide)).2 (by rw [b_lt (by decide) (by decide)]; decide)).2 h80).1 (Or.inl (by decide))
          exact fin _ (by rw [if_neg z0, if_neg z1, if_neg z2]) q
    · obtain ⟨e1, e2⟩ := q.1 (by rw [b_le (by omega) (by omega)]; exact hl)
      subst e2
      have : k = N := by omega
      subst this
      exact ⟨_, e1, fxo.rf, fun hz => hI 0 (by rw [evk_h]; exact hz)⟩
theorem s_evaluate {u : Nat} (hC : cd_ok C N) (hu : u < 10) {F : fx_F} (hc : cc F C N) (h : Cl k_Or_evaluate [(2, 19), (0, u)] F v F') : ∃ x, v = (0, x) ∧ fxo [23] F F' ∧ (0 < hgt C N → x = (evk (F 20 u) u (F 21 u) C N).2 0) := by
  obtain ⟨n, h⟩ := c_Or_evaluate h
  obtain ⟨m, hm, hR⟩ := q_Or_evaluate_0 h
  exact ev4 hC hu m F 0 hR hc rfl rfl (Nat.zero_le _) (fun j hj => absurd hj (Nat.not_lt_zero _))
end ORD
