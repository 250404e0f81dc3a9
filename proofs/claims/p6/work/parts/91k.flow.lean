/-! Flows of one a link: how many rows there are (names of other parts: cnt_less ds_ex) -/
/-- what flows along a channel -/
def cf (f : Nat → Int) (c : Nat) : Int := if c % 2 = 0 then f (c / 2) else - f (c / 2)
def tm (E : Nat → Nat) (f : Nat → Int) (S : Nat → Bool) (l : Nat) : Int := (if S (E (2 * l)) = true then f l else 0) - (if S (E (2 * l + 1)) = true then f l else 0)
def cut (E : Nat → Nat) (f : Nat → Int) (S : Nat → Bool) : Nat → Int
  | 0 => 0
  | k + 1 => cut E f S k + tm E f S k
/-- a flow of k from a to b -/
def vfl (L : Nat) (E : Nat → Nat) (st : Nat → Bool) (a b : Nat) (f : Nat → Int) (k : Int) : Prop := (∀ l, l < L → -1 ≤ f l ∧ f l ≤ 1 ∧ (st l = false → f l = 0)) ∧ ∀ S : Nat → Bool, S a = true → S b = false → cut E f S L = k
/-- nobody gets out of S -/
def cls (L : Nat) (E : Nat → Nat) (st : Nat → Bool) (f : Nat → Int) (S : Nat → Bool) : Prop := ∀ c, c < 2 * L → st (c / 2) = true → cf f c ≤ 0 → S (E c) = true → S (E (nf c)) = true
def stp (g : Nat → Int) (c : Nat) : Nat → Int := fun l => if l = c / 2 then (if c % 2 = 0 then g l + 1 else g l - 1) else g l
section FLOW
variable {nn L a b : Nat} {E : Nat → Nat} {st : Nat → Bool} {f g : Nat → Int} {S : Nat → Bool}
theorem cut_le {h : Nat → Int} : ∀ k, (∀ l, l < k → tm E g S l ≤ h l) → (∀ l, l < k → tm E f S l = h l) → cut E g S k ≤ cut E f S k
  | 0, _, _ => Int.le_refl _
  | k + 1, h1, h2 => by
    have ih := cut_le (h := h) k (fun l hl => h1 l (by omega)) (fun l hl => h2 l (by omega))
    have a1 := h1 k (by omega)
    have a2 := h2 k (by omega)
    show cut E g S k + tm E g S k ≤ cut E f S k + tm E f S k
    omega
theorem cut_b : ∀ k, (∀ l, l < k → tm E g S l ≤ 1) → cut E g S k ≤ k
  | 0, _ => Int.le_refl _
  | k + 1, h1 => by
    have ih := cut_b k (fun l hl => h1 l (by omega))
    have a1 := h1 k (by omega)
    show cut E g S k + tm E g S k ≤ ((k + 1 : Nat) : Int)
    omega
theorem cut_congr : ∀ k, (∀ l, l < k → f l = g l) → cut E f S k = cut E g S k
  | 0, _ => rfl
  | k + 1, h => by
    show cut E f S k + tm E f S k = cut E g S k + tm E g S k
    rw [cut_congr k (fun l hl => h l (by omega))]
    unfold tm
    rw [h k (by omega)]
theorem cut_0 : ∀ k, cut E (fun _ => 0) S k = 0
  | 0 => rfl
  | k + 1 => by
    show cut E (fun _ => 0) S k + tm E (fun _ => 0) S k = 0
    rw [cut_0 k]
    unfold tm
    split <;> split <;> rfl
theorem nf_0 (l : Nat) : nf (2 * l) = 2 * l + 1 := by unfold nf; rw [if_pos (by omega)]
theorem nf_1 (l : Nat) : nf (2 * l + 1) = 2 * l := by unfold nf; rw [if_neg (by omega)]; omega
/-- a step on a channel -/
theorem cut_stp {c : Nat} : ∀ k, cut E (stp g c) S k = cut E g S k + (if c / 2 < k then (if S (E c) = true then 1 else 0) - (if S (E (nf c)) = true then 1 else 0) else 0)
  | 0 => by rw [if_neg (Nat.not_lt_zero _)]; rfl
  | k + 1 => by
    have ih := cut_stp (c := c) k
    show cut E (stp g c) S k + tm E (stp g c) S k = cut E g S k + tm E g S k + _
    rw [ih]
    by_cases e : c / 2 = k
    · rw [if_neg (show ¬ c / 2 < k by omega), if_pos (show c / 2 < k + 1 by omega)]
      unfold tm
      have ek : stp g c k = if c % 2 = 0 then g k + 1 else g k - 1 := if_pos e.symm
      rw [ek]
      rcases Nat.mod_two_eq_zero_or_one c with z | z
      · have ec : c = 2 * k := by omega
        rw [if_pos z, ec, nf_0]
        by_cases s1 : S (E (2 * k)) = true <;> by_cases s2 : S (E (2 * k + 1)) = true
        · rw [if_pos s1, if_pos s2, if_pos s1, if_pos s2, if_pos s1, if_pos s2]; omega
        · rw [if_pos s1, if_neg s2, if_pos s1, if_neg s2, if_pos s1, if_neg s2]; omega
        · rw [if_neg s1, if_pos s2, if_neg s1, if_pos s2, if_neg s1, if_pos s2]; omega
        · rw [if_neg s1, if_neg s2, if_neg s1, if_neg s2, if_neg s1, if_neg s2]; omega
      · have ec : c = 2 * k + 1 := by omega
        rw [if_neg (show ¬ c % 2 = 0 by omega), ec, nf_1]
        by_cases s1 : S (E (2 * k)) = true <;> by_cases s2 : S (E (2 * k + 1)) = true
        · rw [if_pos s1, if_pos s2, if_pos s1, if_pos s2, if_pos s2, if_pos s1]; omega
        · rw [if_pos s1, if_neg s2, if_pos s1, if_neg s2, if_neg s2, if_pos s1]; omega
        · rw [if_neg s1, if_pos s2, if_neg s1, if_pos s2, if_pos s2, if_neg s1]; omega
        · rw [if_neg s1, if_neg s2, if_neg s1, if_neg s2, if_neg s2, if_neg s1]; omega
    · have ek : stp g c k = g k := if_neg (fun z => e z.symm)
      have et : tm E (stp g c) S k = tm E g S k := by unfold tm; rw [ek]
      rw [et]
      by_cases w : c / 2 < k
      · rw [if_pos w, if_pos (show c / 2 < k + 1 by omega)]; omega
      · rw [if_neg w, if_neg (show ¬ c / 2 < k + 1 by omega)]; omega
/-- the greatest: who can't get out has as much as anybody -/
theorem mx {k k2 : Int} (hf : vfl L E st a b f k) (hc : cls L E st f S) (ha : S a = true) (hb : S b = false) (hg : vfl L E st a b g k2) : k2 ≤ k := by
  rw [← hf.2 S ha hb, ← hg.2 S ha hb]
  refine cut_le (h := fun l => if st l = true then (if S (E (2 * l)) = true then (if S (E (2 * l + 1)) = true then 0 else 1) else (if S (E (2 * l + 1)) = true then 1 else 0)) else 0) L (fun l hl => ?_) (fun l hl => ?_)
  · obtain ⟨g1, g2, g3⟩ := hg.1 l hl
    show tm E g S l ≤ if st l = true then _ else _
    unfold tm
    cases e : st l with
    | false =>
      have := g3 e
      rw [this]
      rw [if_neg (show ¬ (false = true) by decide)]
      split <;> split <;> omega
    | true =>
      rw [if_pos rfl]
      by_cases s1 : S (E (2 * l)) = true
      · by_cases s2 : S (E (2 * l + 1)) = true
        · rw [if_pos s1, if_pos s2, if_pos s1, if_pos s2]; omega
        · rw [if_pos s1, if_neg s2, if_pos s1, if_neg s2]; omega
      · by_cases s2 : S (E (2 * l + 1)) = true
        · rw [if_neg s1, if_pos s2, if_neg s1, if_pos s2]; omega
        · rw [if_neg s1, if_neg s2, if_neg s1, if_neg s2]; omega
  · obtain ⟨g1, g2, g3⟩ := hf.1 l hl
    show tm E f S l = if st l = true then _ else _
    unfold tm
    cases e : st l with
    | false =>
      have := g3 e
      rw [this]
      rw [if_neg (show ¬ (false = true) by decide)]
      split <;> split <;> omega
    | true =>
      rw [if_pos rfl]
      have c0 := hc (2 * l) (by omega) (by rw [show 2 * l / 2 = l by omega]; exact e)
      have c1 := hc (2 * l + 1) (by omega) (by rw [show (2 * l + 1) / 2 = l by omega]; exact e)
      rw [nf_0] at c0
      rw [nf_1] at c1
      have e0 : cf f (2 * l) = f l := by unfold cf; rw [if_pos (by omega), show 2 * l / 2 = l by omega]
      have e1 : cf f (2 * l + 1) = - f l := by unfold cf; rw [if_neg (by omega), show (2 * l + 1) / 2 = l by omega]
      rw [e0] at c0
      rw [e1] at c1
      by_cases s1 : S (E (2 * l)) = true
      · by_cases s2 : S (E (2 * l + 1)) = true
        · rw [if_pos s1, if_pos s2, if_pos s1, if_pos s2]; omega
        · rw [if_pos s1, if_neg s2, if_pos s1, if_neg s2]
          have : ¬ f l ≤ 0 := fun z => s2 (c0 z s1)
          omega
      · by_cases s2 : S (E (2 * l + 1)) = true
        · rw [if_neg s1, if_pos s2, if_neg s1, if_pos s2]
          have : ¬ - f l ≤ 0 := fun z => s1 (c1 z s2)
          omega
        · rw [if_neg s1, if_neg s2, if_neg s1, if_neg s2]; omega
theorem vfl_b {k : Int} (hab : a ≠ b) (hf : vfl L E st a b f k) : k ≤ L := by
  have h := hf.2 (fun v => Nat.beq v a) (rx_beq.mpr rfl) (Bool.eq_false_iff.mpr (fun z => hab (rx_beq.mp z).symm))
  rw [← h]
  refine cut_b L (fun l hl => ?_)
  obtain ⟨g1, g2, g3⟩ := hf.1 l hl
  unfold tm
  by_cases s1 : Nat.beq (E (2 * l)) a = true
  · by_cases s2 : Nat.beq (E (2 * l + 1)) a = true
    · rw [if_pos s1, if_pos s2]; omega
    · rw [if_pos s1, if_neg s2]; omega
  · by_cases s2 : Nat.beq (E (2 * l + 1)) a = true
    · rw [if_neg s1, if_pos s2]; omega
    · rw [if_neg s1, if_neg s2]; omega
theorem vfl_0 : vfl L E st a b (fun _ => 0) 0 := ⟨fun l _ => (show (-1 : Int) ≤ 0 ∧ (0 : Int) ≤ 1 ∧ (st l = false → (0 : Int) = 0) from ⟨by decide, by decide, fun _ => rfl⟩), fun S _ _ => cut_0 L⟩
/-- found -/
def dsc (cb : Nat → Nat) (a w : Nat) : Bool := !(Nat.beq w a) && !(Nat.beq (cb w) 4294967295)
theorem dsc_iff {cb : Nat → Nat} {w : Nat} : dsc cb a w = true ↔ w ≠ a ∧ cb w ≠ 4294967295 := by
  unfold dsc
  rw [Bool.and_eq_true]
  refine and_congr ?_ ?_ <;> rw [Bool.not_eq_true', ← Bool.not_eq_true, rx_beq]
/-- how it was come by: ranks fall along the way back -/
def tre (nn L : Nat) (E : Nat → Nat) (st : Nat → Bool) (f : Nat → Int) (a : Nat) (cb r : Nat → Nat) : Prop := (∀ v, v < nn → dsc cb a v = true → cb v < 2 * L ∧ E (nf (cb v)) = v ∧ st (cb v / 2) = true ∧ cf f (cb v) ≤ 0 ∧ (E (cb v) = a ∨ dsc cb a (E (cb v)) = true) ∧ r (E (cb v)) < r v) ∧ (∀ v, v < nn → dsc cb a v = true → r v ≤ cnt (dsc cb a) nn) ∧ r a = 0
theorem tre_0 {cb : Nat → Nat} (h : ∀ v, v < nn → dsc cb a v = false) : tre nn L E st f a cb (fun _ => 0) := ⟨fun v hn hv => (by rw [h v hn] at hv; cases hv), fun v hn hv => (by rw [h v hn] at hv; cases hv), rfl⟩
/-- one more is found -/
theorem tre_s {cb cb2 r : Nat → Nat} {c : Nat} (hN : nt_ok nn L E) (ht : tre nn L E st f a cb r) (hc : c < 2 * L) (hst : st (c / 2) = true) (hcf : cf f c ≤ 0) (h1 : E c = a ∨ dsc cb a (E c) = true) (h2 : E (nf c) ≠ a) (h3 : dsc cb a (E (nf c)) = false) (hcb : ∀ v, cb2 v = if v = E (nf c) then c else cb v) : (∃ r2, tre nn L E st f a cb2 r2) ∧ (∀ v, dsc cb2 a v = true ↔ v = E (nf c) ∨ dsc cb a v = true) ∧ cnt (dsc cb a) nn + 1 ≤ cnt (dsc cb2 a) nn := by
  have hL := hN.2.1
  have hd : ∀ v, dsc cb2 a v = true ↔ v = E (nf c) ∨ dsc cb a v = true := fun v => by
    rw [dsc_iff, dsc_iff, hcb v]
    by_cases e : v = E (nf c)
    · rw [if_pos e]
      exact ⟨fun _ => Or.inl e, fun _ => ⟨by rw [e]; exact h2, by omega⟩⟩
    · rw [if_neg e]
      exact ⟨fun z => Or.inr z, fun z => z.resolve_left e⟩
  have hlt := (hN.2.2 _ (nf_lt hc)).1
  have hcn : cnt (dsc cb a) nn + 1 ≤ cnt (dsc cb2 a) nn := cnt_less hlt (fun i _ hi => (hd i).mpr (Or.inr hi)) ((hd _).mpr (Or.inl rfl)) h3
  refine ⟨⟨fun v => if v = E (nf c) then cnt (dsc cb2 a) nn else r v, fun v hv hdv => ?_, fun v hv hdv => ?_, ?_⟩, hd, hcn⟩
  · show _ ∧ _ ∧ _ ∧ _ ∧ _ ∧ (if E (cb2 v) = E (nf c) then cnt (dsc cb2 a) nn else r (E (cb2 v))) < (if v = E (nf c) then cnt (dsc cb2 a) nn else r v)
    rw [hcb v]
    by_cases e : v = E (nf c)
    · have hne : E c ≠ E (nf c) := (hN.2.2 c hc).2
      rw [if_pos e, if_pos e, if_neg hne]
      refine ⟨hc, e.symm, hst, hcf, h1.imp id (fun z => (hd _).mpr (Or.inr z)), ?_⟩
      rcases h1 with z | z
      · rw [z, ht.2.2]; omega
      · have := ht.2.1 _ (hN.2.2 c hc).1 z; omega
    · have hdv' := ((hd v).mp hdv).resolve_left e
      obtain ⟨k1, k2, k3, k4, k5, k6⟩ := ht.1 v hv hdv'
      have hne : E (cb v) ≠ E (nf c) := by
        rcases k5 with z | z
        · rw [z]; exact fun y => h2 y.symm
        · intro y; rw [y, h3] at z; cases z
      rw [if_neg e, if_neg e, if_neg hne]
      exact ⟨k1, k2, k3, k4, k5.imp id (fun z => (hd _).mpr (Or.inr z)), k6⟩
  · show (if v = E (nf c) then cnt (dsc cb2 a) nn else r v) ≤ _
    by_cases e : v = E (nf c)
    · rw [if_pos e]; exact Nat.le_refl _
    · rw [if_neg e]
      have := ht.2.1 v hv (((hd v).mp hdv).resolve_left e)
      omega
  · show (if a = E (nf c) then cnt (dsc cb2 a) nn else r a) = 0
    rw [if_neg (fun z => h2 z.symm)]; exact ht.2.2
theorem dsc_lt {cb : Nat → Nat} (ha : a < nn) : cnt (dsc cb a) nn + 1 ≤ nn := by
  have h1 := cnt_less (p := dsc cb a) (q := fun _ => true) (n := nn) ha (fun _ _ _ => rfl) rfl (by unfold dsc; rw [rx_beq.mpr rfl]; rfl)
  have h2 := cnt_le (fun _ => true) nn
  omega
/-- the way back, as far as x: what has been changed -/
def bck (nn L : Nat) (E : Nat → Nat) (st : Nat → Bool) (f : Nat → Int) (a b : Nat) (cb r : Nat → Nat) (k : Int) (x : Nat) (g : Nat → Int) : Prop := (x < nn ∧ (x = a ∨ dsc cb a x = true)) ∧ (∀ w, w < nn → dsc cb a w = true → r w ≤ r x → g (cb w / 2) = f (cb w / 2)) ∧ (∀ l, l < L → -1 ≤ g l ∧ g l ≤ 1 ∧ (st l = false → g l = 0)) ∧ ∀ S : Nat → Bool, S a = true → S b = false → cut E g S L = k + (if S x = true then 1 else 0)
theorem bck_0 {cb r : Nat → Nat} {k : Int} (hb : b < nn) (hd : dsc cb a b = true) (hf : vfl L E st a b f k) : bck nn L E st f a b cb r k b f := ⟨⟨hb, Or.inr hd⟩, fun _ _ _ _ => rfl, hf.1, fun S h1 h2 => by rw [hf.2 S h1 h2, if_neg (by rw [h2]; decide)]; omega⟩
theorem bck_s {cb r : Nat → Nat} {k : Int} {x : Nat} (hN : nt_ok nn L E) (ht : tre nn L E st f a cb r) (h : bck nn L E st f a b cb r k x g) (hx : x ≠ a) : bck nn L E st f a b cb r k (E (cb x)) (stp g (cb x)) ∧ cb x < 2 * L ∧ dsc cb a x = true ∧ cf g (cb x) ≤ 0 ∧ r (E (cb x)) < r x := by
  obtain ⟨⟨h0, h1⟩, h2, h3, h4⟩ := h
  have hd := h1.resolve_left hx
  obtain ⟨k1, k2, k3, k4, k5, k6⟩ := ht.1 x h0 hd
  have eg := h2 x h0 hd (Nat.le_refl _)
  have ecf : cf g (cb x) ≤ 0 := by unfold cf at k4 ⊢; rw [eg]; exact k4
  refine ⟨⟨⟨(hN.2.2 _ k1).1, k5⟩, fun w hw hdw hrw => ?_, fun l hl => ?_, fun S s1 s2 => ?_⟩, k1, hd, ecf, k6⟩
  · obtain ⟨m1, m2, m3, m4, m5, m6⟩ := ht.1 w hw hdw
    have hne : cb w / 2 ≠ cb x / 2 := fun e => by
      by_cases e2 : cb w = cb x
      · rw [e2, k2] at m2
        rw [← m2] at hrw
        omega
      · have e3 : nf (cb x) = cb w := by unfold nf; split <;> omega
        have e4 : nf (cb w) = cb x := by rw [← e3, nf_nf]
        rw [e3] at k2
        rw [e4] at m2
        rw [m2] at k6 hrw
        rw [k2] at m6
        omega
    show (if cb w / 2 = cb x / 2 then _ else g (cb w / 2)) = _
    rw [if_neg hne]
    exact h2 w hw hdw (by omega)
  · obtain ⟨g1, g2, g3⟩ := h3 l hl
    show -1 ≤ (if l = cb x / 2 then (if cb x % 2 = 0 then g l + 1 else g l - 1) else g l) ∧ (if l = cb x / 2 then (if cb x % 2 = 0 then g l + 1 else g l - 1) else g l) ≤ 1 ∧ (st l = false → (if l = cb x / 2 then (if cb x % 2 = 0 then g l + 1 else g l - 1) else g l) = 0)
    by_cases e : l = cb x / 2
    · rw [if_pos e]
      unfold cf at ecf
      rw [← e] at ecf k3
      by_cases z : cb x % 2 = 0
      · rw [if_pos z] at ecf ⊢
        exact ⟨by omega, by omega, fun y => by rw [k3] at y; cases y⟩
      · rw [if_neg z] at ecf ⊢
        exact ⟨by omega, by omega, fun y => by rw [k3] at y; cases y⟩
    · rw [if_neg e]; exact ⟨g1, g2, g3⟩
  · rw [cut_stp, h4 S s1 s2, if_pos (show cb x / 2 < L by omega), k2]
    omega
theorem bck_e {cb r : Nat → Nat} {k : Int} (h : bck nn L E st f a b cb r k a g) : vfl L E st a b g (k + 1) := ⟨h.2.2.1, fun S s1 s2 => by rw [h.2.2.2 S s1 s2, if_pos s1]⟩
end FLOW
