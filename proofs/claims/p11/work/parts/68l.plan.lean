/-! The plan: which links turn in which phase -/
section PLAN
variable {L : Nat} {E : Nat → Nat} {st : Nat → Bool}
/-- the links' bits -/
def bts (u : Nat) : Nat → Bool := fun l => u.testBit l
theorem trn_congr {st2 u u2 : Nat → Bool} {c d : Nat} (h : ∀ l, l < L → st l = st2 l) (hu : ∀ l, l < L → u l = u2 l) : trn L E st u c d ↔ trn L E st2 u2 c d := by
  unfold trn
  refine ⟨fun ⟨h1, h2, h3, h4, h5, h6, h7⟩ => ⟨h1, h2, h3, ?_, ?_, h6, ?_⟩, fun ⟨h1, h2, h3, h4, h5, h6, h7⟩ => ⟨h1, h2, h3, ?_, ?_, h6, ?_⟩⟩
  · rw [← h _ (by omega)]; exact h4
  · rw [← h _ (by omega)]; exact h5
  · unfold isup at *
    rw [← hu (c / 2) (by omega), ← hu (d / 2) (by omega)]; exact h7
  · rw [h _ (by omega)]; exact h4
  · rw [h _ (by omega)]; exact h5
  · unfold isup at *
    rw [hu (c / 2) (by omega), hu (d / 2) (by omega)]; exact h7
theorem cyc_congr {T T2 : Nat → Nat → Prop} (h : ∀ c d, T c d ↔ T2 c d) : cyc T ↔ cyc T2 := by
  have : T = T2 := funext (fun c => funext (fun d => propext (h c d)))
  rw [this]
/-- the turns by the rules u and with the links m turned over have a ring -/
def unsf (L : Nat) (E : Nat → Nat) (st : Nat → Bool) (u m : Nat) : Prop := cyc (fun c d => trn L E st (bts u) c d ∨ trn L E st (bts (u ^^^ m)) c d)
/-- the links taken, of the first l, when `left` are left -/
noncomputable def tkl (L : Nat) (E : Nat → Nat) (st : Nat → Bool) (u left : Nat) : Nat → Nat
  | 0 => 0
  | l + 1 => @ite Nat (left.testBit l = true ∧ ¬ unsf L E st u (tkl L E st u left l ||| 2 ^ l)) (Classical.propDecidable _) (tkl L E st u left l ||| 2 ^ l) (tkl L E st u left l)
theorem tkl_y {u left l : Nat} (h : left.testBit l = true) (h2 : ¬ unsf L E st u (tkl L E st u left l ||| 2 ^ l)) : tkl L E st u left (l + 1) = tkl L E st u left l ||| 2 ^ l := if_pos ⟨h, h2⟩
theorem tkl_n {u left l : Nat} (h : left.testBit l = true → unsf L E st u (tkl L E st u left l ||| 2 ^ l)) : tkl L E st u left (l + 1) = tkl L E st u left l := if_neg (fun z => z.2 (h z.1))
theorem tkl_b {u left : Nat} : ∀ l j, (tkl L E st u left l).testBit j = true → j < l ∧ left.testBit j = true
  | 0, j, h => by
    rw [show tkl L E st u left 0 = 0 from rfl, Nat.zero_testBit] at h
    cases h
  | l + 1, j, h => by
    by_cases h1 : left.testBit l = true ∧ ¬ unsf L E st u (tkl L E st u left l ||| 2 ^ l)
    · rw [tkl_y h1.1 h1.2, tb_or, Bool.or_eq_true] at h
      rcases h with h | h
      · obtain ⟨h2, h3⟩ := tkl_b l j h
        exact ⟨by omega, h3⟩
      · have := of_decide_eq_true h
        subst this
        exact ⟨by omega, h1.1⟩
    · rw [tkl_n (fun z => Classical.byContradiction (fun y => h1 ⟨z, y⟩))] at h
      obtain ⟨h2, h3⟩ := tkl_b l j h
      exact ⟨by omega, h3⟩
theorem tkl_lt {u left l : Nat} : tkl L E st u left l < 2 ^ l := tb_lt (fun i hi => (tkl_b l i hi).1)
/-- the rules behind k phases -/
noncomputable def pu (L : Nat) (E : Nat → Nat) (st : Nat → Bool) (up nw : Nat) : Nat → Nat
  | 0 => up
  | k + 1 => pu L E st up nw k ^^^ tkl L E st (pu L E st up nw k) (pu L E st up nw k ^^^ nw) L
/-- the links of phase k -/
noncomputable def pt (L : Nat) (E : Nat → Nat) (st : Nat → Bool) (up nw k : Nat) : Nat := tkl L E st (pu L E st up nw k) (pu L E st up nw k ^^^ nw) L
variable {up nw : Nat}
theorem pu_s (k : Nat) : pu L E st up nw (k + 1) = pu L E st up nw k ^^^ pt L E st up nw k := rfl
theorem pu_lt (hu : up < 2 ^ L) : ∀ k, pu L E st up nw k < 2 ^ L
  | 0 => hu
  | k + 1 => by
    rw [pu_s]
    exact Nat.xor_lt_two_pow (pu_lt hu k) tkl_lt
theorem pt_b {k j : Nat} (h : (pt L E st up nw k).testBit j = true) : j < L ∧ (pu L E st up nw k ^^^ nw).testBit j = true := tkl_b L j h
theorem pl_b (k j : Nat) : (pu L E st up nw (k + 1) ^^^ nw).testBit j = ((pu L E st up nw k ^^^ nw).testBit j && !((pt L E st up nw k).testBit j)) := by
  rw [pu_s]
  have := @pt_b L E st up nw k j
  rw [Nat.testBit_xor] at *
  rw [Nat.testBit_xor]
  rw [Nat.testBit_xor]
  revert this
  cases (pt L E st up nw k).testBit j <;> cases (pu L E st up nw k).testBit j <;> cases nw.testBit j <;> intro this <;> first | rfl | (have := (this rfl).2; cases this)
theorem xz {x y : Nat} : x ^^^ y = 0 ↔ x = y := by
  constructor
  · intro h
    refine tb_ext (fun i => ?_)
    have : (x ^^^ y).testBit i = false := by rw [h, Nat.zero_testBit]
    rw [Nat.testBit_xor] at this
    revert this
    cases x.testBit i <;> cases y.testBit i <;> intro this <;> first | rfl | cases this
  · intro h
    rw [h, Nat.xor_self]
/-- in a later phase it is not left -/
theorem pl_gone {k l : Nat} (h : (pt L E st up nw k).testBit l = true) : ∀ j, k < j → (pu L E st up nw j ^^^ nw).testBit l = false := by
  intro j
  induction j with
  | zero => intro hj; omega
  | succ j ih =>
    intro hj
    rw [pl_b]
    by_cases e : j = k
    · subst e; rw [h]; simp
    · rw [ih (by omega)]; rfl
theorem pt_once {k l j : Nat} (h : (pt L E st up nw k).testBit l = true) (h2 : (pt L E st up nw j).testBit l = true) : k = j := by
  rcases Nat.lt_trichotomy k j with z | z | z
  · have := (pt_b h2).2; rw [pl_gone h j z] at this; cases this
  · exact z
  · have := (pt_b h).2; rw [pl_gone h2 k z] at this; cases this
/-- k phases, and all is turned -/
def plr (L : Nat) (E : Nat → Nat) (st : Nat → Bool) (up nw k : Nat) : Prop := pu L E st up nw k = nw ∧ ∀ j, j < k → pu L E st up nw j ≠ nw ∧ pt L E st up nw j ≠ 0
/-- no plan -/
def plb (L : Nat) (E : Nat → Nat) (st : Nat → Bool) (up nw : Nat) : Prop := ∃ k, (∀ j, j < k → pt L E st up nw j ≠ 0) ∧ pu L E st up nw k ≠ nw ∧ pt L E st up nw k = 0
theorem pu_stay {k : Nat} (h : pt L E st up nw k = 0) : pu L E st up nw (k + 1) = pu L E st up nw k := by
  rw [pu_s, h, Nat.xor_zero]
theorem plr_fun {k j : Nat} (h : plr L E st up nw k) (h2 : plr L E st up nw j) : k = j := by
  rcases Nat.lt_trichotomy k j with z | z | z
  · exact absurd h.1 (h2.2 k z).1
  · exact z
  · exact absurd h2.1 (h.2 j z).1
theorem pt_end {k : Nat} (h : pu L E st up nw k = nw) : pt L E st up nw k = 0 := by
  refine tb_ext (fun i => ?_)
  rw [Nat.zero_testBit]
  cases hq : (pt L E st up nw k).testBit i with
  | false => rfl
  | true =>
    have := (pt_b hq).2
    rw [h, Nat.xor_self, Nat.zero_testBit] at this
    cases this
theorem plr_plb {k : Nat} (h : plr L E st up nw k) (h2 : plb L E st up nw) : False := by
  obtain ⟨j, j1, j2, j3⟩ := h2
  rcases Nat.lt_trichotomy k j with z | z | z
  · exact j1 k z (pt_end h.1)
  · subst z; exact j2 h.1
  · exact (h.2 j z).2 j3
/-- what is left grows less -/
theorem pl_cnt {k : Nat} (h : ∀ j, j < k → pt L E st up nw j ≠ 0) : cnt (fun l => (pu L E st up nw k ^^^ nw).testBit l) L + k ≤ L := by
  induction k with
  | zero => exact cnt_le _ _
  | succ k ih =>
    have ih := ih (fun j hj => h j (by omega))
    have hne := h k (by omega)
    have : ∃ i, (pt L E st up nw k).testBit i = true := by
      by_cases hx : ∃ i, (pt L E st up nw k).testBit i = true
      · exact hx
      · refine absurd (tb_ext (fun i => ?_)) hne
        rw [Nat.zero_testBit]
        cases hq : (pt L E st up nw k).testBit i with
        | false => rfl
        | true => exact absurd ⟨i, hq⟩ hx
    obtain ⟨i, hi⟩ := this
    have := cnt_less (p := fun l => (pu L E st up nw (k + 1) ^^^ nw).testBit l) (q := fun l => (pu L E st up nw k ^^^ nw).testBit l) (n := L) (c := i) (pt_b hi).1 (fun j _ hj => by
      have hj : (pu L E st up nw (k + 1) ^^^ nw).testBit j = true := hj
      rw [pl_b, Bool.and_eq_true] at hj
      exact hj.1) (pt_b hi).2 (by show (pu L E st up nw (k + 1) ^^^ nw).testBit i = false; rw [pl_b, hi]; simp)
    omega
theorem pl_zero {k : Nat} (hu : up < 2 ^ L) (hn : nw < 2 ^ L) (h : cnt (fun l => (pu L E st up nw k ^^^ nw).testBit l) L = 0) : pu L E st up nw k = nw := by
  refine xz.mp (tb_ext (fun i => ?_))
  rw [Nat.zero_testBit]
  have hb : pu L E st up nw k ^^^ nw < 2 ^ L := Nat.xor_lt_two_pow (pu_lt hu k) hn
  have z : ∀ n, cnt (fun l => (pu L E st up nw k ^^^ nw).testBit l) n = 0 → ∀ i, i < n → (pu L E st up nw k ^^^ nw).testBit i = false := by
    intro n
    induction n with
    | zero => intro _ i hi; omega
    | succ n ih =>
      intro hz i hi
      have hz : cnt (fun l => (pu L E st up nw k ^^^ nw).testBit l) n + (if (pu L E st up nw k ^^^ nw).testBit n then 1 else 0) = 0 := hz
      by_cases e : i = n
      · subst e
        cases hq : (pu L E st up nw k ^^^ nw).testBit i with
        | false => rfl
        | true => rw [hq, if_pos rfl] at hz; omega
      · exact ih (by omega) i (by omega)
  rcases Nat.lt_or_ge i L with hi | hi
  · exact z L h i hi
  · exact tb_out hb hi
theorem b_less {x y : Nat} (hx : x < 4294967296) (hy : y < 4294967296) : ∀ j, (i_and x (i_xor y 4294967295)).testBit j = (x.testBit j && !(y.testBit j)) := by
  rw [b_xor (k := 32) (Nat.le_refl _) hy (by decide), b_and hx]
  intro j
  rw [Nat.testBit_and, Nat.testBit_xor, show (4294967295 : Nat) = 2 ^ 32 - 1 from rfl, Nat.testBit_two_pow_sub_one]
  by_cases hj : j < 32
  · rw [decide_eq_true hj]; simp
  · have h2 : x.testBit j = false := tb_out hx (show 32 ≤ j by omega)
    rw [h2]; rfl
theorem b_less_pl {k : Nat} (hL : L ≤ 20) (hu : up < 2 ^ L) (hn : nw < 2 ^ L) : i_and (pu L E st up nw k ^^^ nw) (i_xor (pt L E st up nw k) 4294967295) = pu L E st up nw (k + 1) ^^^ nw := by
  have h20 : 2 ^ L ≤ 2 ^ 20 := Nat.pow_le_pow_right (by decide) hL
  have h1 : pu L E st up nw k ^^^ nw < 2 ^ L := Nat.xor_lt_two_pow (pu_lt hu k) hn
  have h2 : pt L E st up nw k < 2 ^ L := tkl_lt
  refine tb_ext (fun j => ?_)
  rw [b_less (by omega) (by omega), pl_b]
end PLAN
