/-! Lawful ways: how far it is from a place to a goal -/
/-- the state behind a channel -/
def bh (u : Nat → Bool) (c : Nat) : Nat := if isup u c then 0 else 1
theorem bh_le (u : Nat → Bool) (c : Nat) : bh u c ≤ 1 := by unfold bh; split <;> omega
/-- by channel c one goes on from place x to place y -/
def gc (L : Nat) (E : Nat → Nat) (st u : Nat → Bool) (c x y : Nat) : Prop := c < 2 * L ∧ st (c / 2) = true ∧ x / 2 = E c ∧ x % 2 ≤ bh u c ∧ y = 2 * E (nf c) + bh u c
/-- a way of d channels from place x to goal g -/
def gw (L : Nat) (E : Nat → Nat) (st u : Nat → Bool) (g : Nat) : Nat → Nat → Prop
  | 0, x => x / 2 = g
  | d + 1, x => ∃ c y, gc L E st u c x y ∧ gw L E st u g d y
def gd (L : Nat) (E : Nat → Nat) (st u : Nat → Bool) (g d x : Nat) : Prop := gw L E st u g d x ∧ ∀ e, e < d → ¬ gw L E st u g e x
section HOPS
variable {nn L : Nat} {E : Nat → Nat} {st u : Nat → Bool} {g : Nat}
theorem gd_fun {d e x : Nat} (h : gd L E st u g d x) (h2 : gd L E st u g e x) : d = e := by
  rcases Nat.lt_trichotomy d e with z | z | z
  · exact absurd h.1 (h2.2 d z)
  · exact z
  · exact absurd h2.1 (h.2 e z)
theorem gd_ex {d x : Nat} (h : gw L E st u g d x) : ∃ e, e ≤ d ∧ gd L E st u g e x := by
  induction d using Nat.strongRecOn with
  | ind d ih =>
    by_cases hx : ∃ e, e < d ∧ gw L E st u g e x
    · obtain ⟨e, he, hw⟩ := hx
      obtain ⟨f, hf, hd⟩ := ih e he hw
      exact ⟨f, by omega, hd⟩
    · exact ⟨d, Nat.le_refl d, h, fun e he hw => hx ⟨e, he, hw⟩⟩
theorem gd_pred {d x : Nat} (h : gd L E st u g (d + 1) x) : ∃ c y, gc L E st u c x y ∧ gd L E st u g d y := by
  obtain ⟨⟨c, y, h1, h2⟩, h5⟩ := h
  exact ⟨c, y, h1, h2, fun e he hw => h5 (e + 1) (by omega) ⟨c, y, h1, hw⟩⟩
theorem gd_down {d x : Nat} (h : gd L E st u g d x) : ∀ k, k ≤ d → ∃ y, gd L E st u g k y := by
  intro k hk
  induction d generalizing x with
  | zero => exact ⟨x, by rw [show k = 0 by omega]; exact h⟩
  | succ d ih =>
    rcases Nat.lt_or_ge d k with z | z
    · exact ⟨x, by rw [show k = d + 1 by omega]; exact h⟩
    · obtain ⟨c, y, _, h4⟩ := gd_pred h
      exact ih h4 z
theorem gc_lt (hN : nt_ok nn L E) {c x y : Nat} (h : gc L E st u c x y) : x < 2 * nn ∧ y < 2 * nn := by
  obtain ⟨h1, h2, h3, h4, h5⟩ := h
  have a := (hN.2.2 c h1).1
  have b := (hN.2.2 _ (nf_lt h1)).1
  have := bh_le u c
  omega
theorem gd_x (hN : nt_ok nn L E) (hg : g < nn) {d x : Nat} (h : gd L E st u g d x) : x < 2 * nn := by
  cases d with
  | zero =>
    have : x / 2 = g := h.1
    omega
  | succ d =>
    obtain ⟨c, y, h1, _⟩ := gd_pred h
    exact (gc_lt hN h1).1
theorem gd_lt (hN : nt_ok nn L E) (hg : g < nn) {d x : Nat} (h : gd L E st u g d x) : d < 2 * nn := by
  have hx := gd_down h
  refine pg_hole (2 * nn) d (fun k => if hk : k ≤ d then (hx k hk).choose else 0) (fun k hk => ?_) (fun i j hi hj hij => ?_)
  · show (if hk : k ≤ d then (hx k hk).choose else 0) < 2 * nn
    rw [dif_pos hk]
    exact gd_x hN hg (hx k hk).choose_spec
  · replace hij : (if hk : i ≤ d then (hx i hk).choose else 0) = (if hk : j ≤ d then (hx j hk).choose else 0) := hij
    rw [dif_pos hi, dif_pos hj] at hij
    have a := (hx i hi).choose_spec
    have b := (hx j hj).choose_spec
    rw [hij] at a
    exact gd_fun a b
theorem gd_none {m : Nat} (h : ∀ x, ¬ gd L E st u g m x) : ∀ d, m ≤ d → ∀ x, ¬ gd L E st u g d x := by
  intro d hd x hx
  obtain ⟨y, hy⟩ := gd_down hx m hd
  exact h y hy
theorem gw_none {x : Nat} (h : ∀ d, ¬ gd L E st u g d x) (d : Nat) : ¬ gw L E st u g d x := fun hw => by
  obtain ⟨e, _, he⟩ := gd_ex hw
  exact h e he
/-- within a level: channels below c have been seen -/
def hJ (nn L : Nat) (E : Nat → Nat) (st u : Nat → Bool) (g k c : Nat) (row : Nat → Nat) : Prop := (∀ x, x < 2 * nn → row x ≠ 4294967295 → gd L E st u g (row x) x ∧ row x ≤ k) ∧ (∀ x d, d < k → gd L E st u g d x → row x = d) ∧ ∀ c', c' < c → ∀ x y, gc L E st u c' x y → gd L E st u g (k - 1) y → row x ≠ 4294967295
/-- a place reached -/
def rst (row : Nat → Nat) (a b k : Nat) : Nat → Nat := fun x => if x = a ∧ row a = 4294967295 ∧ row b = k - 1 then k else row x
theorem rst_mono {row : Nat → Nat} {a b k x : Nat} (hk : k ≤ 20) (h : row x ≠ 4294967295) : rst row a b k x ≠ 4294967295 := by
  unfold rst; split
  · omega
  · exact h
theorem rst_ok (hN : nt_ok nn L E) {row : Nat → Nat} {k c d a b : Nat} (hk1 : 1 ≤ k) (hk : k ≤ 20) (h : hJ nn L E st u g k c row) (he : gc L E st u d a b) : hJ nn L E st u g k c (rst row a b k) ∧ (gd L E st u g (k - 1) b → rst row a b k a ≠ 4294967295) := by
  obtain ⟨hA, hB, hC⟩ := h
  obtain ⟨la, lb⟩ := gc_lt hN he
  refine ⟨⟨fun x hx hne => ?_, fun x d' hd hg => ?_, fun c' hc' x y h1 h2 => rst_mono hk (hC c' hc' x y h1 h2)⟩, fun hg hz => ?_⟩
  · unfold rst at hne ⊢
    by_cases z : x = a ∧ row a = 4294967295 ∧ row b = k - 1
    · rw [if_pos z]
      obtain ⟨z1, z2, z3⟩ := z
      subst z1
      refine ⟨⟨?_, fun e hek hw => ?_⟩, Nat.le_refl k⟩
      · have := (hA b lb (by omega)).1.1
        rw [z3] at this
        rw [show k = k - 1 + 1 by omega]
        exact ⟨d, b, he, this⟩
      · obtain ⟨f, hf, hd⟩ := gd_ex hw
        have := hB x f (by omega) hd
        omega
    · rw [if_neg z] at hne ⊢
      exact hA x hx hne
  · have := hB x d' hd hg
    have h20 : d' < 4294967295 := by omega
    unfold rst
    rw [if_neg (fun z => ?_)]
    · exact this
    · rw [z.1] at this; omega
  · have := hB b (k - 1) (by omega) hg
    unfold rst at hz
    by_cases z : row a = 4294967295
    · rw [if_pos ⟨rfl, z, this⟩] at hz; omega
    · rw [if_neg (fun y => z y.2.1)] at hz; exact z hz
/-- a place reached, in the class's row b -/
def rch (F : fx_F) (P b x y k : Nat) : fx_F := fun q j => if q = P ∧ j = b + x ∧ F P (b + x) = 4294967295 ∧ F P (b + y) = k - 1 then k else F q j
theorem rch_y {F : fx_F} {P b x y k : Nat} (h : F P (b + x) = 4294967295) (h2 : F P (b + y) = k - 1) : fu F P (b + x) k = rch F P b x y k := by
  funext q j
  unfold rch
  rw [fu_if]
  by_cases z : q = P ∧ j = b + x
  · rw [if_pos z, if_pos ⟨z.1, z.2, h, h2⟩]
  · rw [if_neg z, if_neg (fun y => z ⟨y.1, y.2.1⟩)]
theorem rch_n {F : fx_F} {P b x y k : Nat} (h : ¬ (F P (b + x) = 4294967295 ∧ F P (b + y) = k - 1)) : F = rch F P b x y k := by
  funext q j
  unfold rch
  rw [if_neg (fun z => h z.2.2)]
theorem rch_o {F : fx_F} {P b x y k q j : Nat} (h : q ≠ P ∨ j ≠ b + x) : rch F P b x y k q j = F q j := by
  unfold rch
  rw [if_neg (fun z => h.elim (fun y => y z.1) (fun y => y z.2.1))]
theorem rch_row {F : fx_F} {P b x y k z : Nat} : rch F P b x y k P (b + z) = rst (fun z => F P (b + z)) x y k z := by
  unfold rch rst
  by_cases e : z = x
  · subst e
    by_cases w : F P (b + z) = 4294967295 ∧ F P (b + y) = k - 1
    · rw [if_pos ⟨rfl, rfl, w⟩, if_pos ⟨rfl, w⟩]
    · rw [if_neg (fun q => w q.2.2), if_neg (fun q => w q.2)]
  · rw [if_neg (fun q => e (by omega)), if_neg (fun q => e q.1)]
end HOPS
section CHOPS
variable {nn L s p b k : Nat} {E : Nat → Nat} {u : Nat → Bool} {v : fx_V} {F' : fx_F}
/-- what stays in a level -/
def glo (F F' : fx_F) (p b : Nat) : Prop := fxo [p + 1] F F' ∧ ∀ j, (j < b ∨ b + 20 ≤ j) → F' (p + 1) j = F (p + 1) j
theorem glo.rf {F : fx_F} : glo F F p b := ⟨fxo.rf, fun _ _ => rfl⟩
theorem glo.tr {F F1 F2 : fx_F} (h : glo F F1 p b) (h2 : glo F1 F2 p b) : glo F F2 p b := ⟨h.1.tr h2.1, fun j hj => (h2.2 j hj).trans (h.2 j hj)⟩
theorem glo.rch {F F1 : fx_F} {x y : Nat} (hx : x < 20) (h : glo F F1 p b) : glo F (rch F1 (p + 1) b x y k) p b := ⟨fun q j hq => by
    rw [rch_o (Or.inl (fun z => hq (by rw [z]; exact List.mem_singleton.mpr rfl)))]; exact h.1 q j hq, fun j hj => by
    rw [rch_o (Or.inr (by omega))]; exact h.2 j hj⟩
theorem glo.wr {F F1 : fx_F} {x v : Nat} (hx : x < 20) (h : glo F F1 p b) : glo F (fu F1 (p + 1) (b + x) v) p b := ⟨h.1.wr List.mem_cons_self, fun j hj => by rw [fu_i (by omega)]; exact h.2 j hj⟩
/-- what the class's level needs -/
def gli (F : fx_F) (nn L s p : Nat) (E : Nat → Nat) (u : Nat → Bool) : Prop := cn F nn L E ∧ F p 2 = s ∧ ∀ c, c < 2 * L → F (p + 5) c = bh u c
theorem gli.keep {F F' : fx_F} (h : gli F nn L s p E u) (hp : 24 ≤ p) {S : List Nat} (ho : fxo S F F') (h3 : 3 ∉ S) (h4 : 4 ∉ S) (h5 : 5 ∉ S) (hq : p ∉ S) (hq5 : p + 5 ∉ S) : gli F' nn L s p E u := ⟨h.1.keep ho h3 h4 h5, (ho p 2 hq).trans h.2.1, fun c hc => (ho (p + 5) c hq5).trans (h.2.2 c hc)⟩
theorem gli.glo {F F' : fx_F} (h : gli F nn L s p E u) (hp : 24 ≤ p) (ho : glo F F' p b) : gli F' nn L s p E u := h.keep hp ho.1 (by simp; omega) (by simp; omega) (by simp; omega) (by simp) (by simp)
theorem gl_step (hN : nt_ok nn L E) (hs : s < 2147483648) (hp : 24 ≤ p) (hb : b ≤ 200) (hk1 : 1 ≤ k) (hk : k ≤ 20) {n c gf : Nat} {F : fx_F} (h : Rn n k_Ro_growLevel 5 [(2, p), (0, b), (0, k), (0, gf), (0, c), (3, 0), (3, 0)] [] F v F') (hI : gli F nn L s p E u) (hc : c < 2 * L) : ∃ m g' F1, m < n ∧ Rn m k_Ro_growLevel 5 [(2, p), (0, b), (0, k), (0, g'), (0, c + 1), (3, 0), (3, 0)] [] F1 v F' ∧ (g' = 0 → gf = 0 ∧ F1 = F) ∧ ((s.testBit (c / 2) = false ∧ F1 = F) ∨ (s.testBit (c / 2) = true ∧ bh u c = 0 ∧ F1 = rch F (p + 1) b (2 * E c) (2 * E (nf c)) k) ∨ (s.testBit (c / 2) = true ∧ bh u c = 1 ∧ F1 = rch (rch F (p + 1) b (2 * E c) (2 * E (nf c) + 1) k) (p + 1) b (2 * E c + 1) (2 * E (nf c) + 1) k)) := by
  have hL := hN.2.1
  have hn := hN.1
  obtain ⟨hcn, h2, hbh⟩ := hI
  have q := q_Ro_growLevel_5 h
  have e1 := (hN.2.2 c hc).1
  have e2 := (hN.2.2 _ (nf_lt hc)).1
  rw [hcn.2.1, b_mul (show 2 * L < 4294967296 by omega), h2, b_bit hs (show c < 64 by omega), (hcn.2.2 c hc).1, (hcn.2.2 c hc).2, b_mul (show 2 * E c < 4294967296 by omega), b_mul (show 2 * E (nf c) < 4294967296 by omega), b_add (show c + 1 < 4294967296 by omega), b_add (show b + 2 * E c < 4294967296 by omega), b_add (show b + 2 * E (nf c) < 4294967296 by omega), b_add (show b + 2 * E c + 1 < 4294967296 by omega), b_add (show b + 2 * E (nf c) + 1 < 4294967296 by omega), b_sub (show 1 ≤ k by omega) (show k < 4294967296 by omega), Nat.add_assoc b (2 * E c) 1, Nat.add_assoc b (2 * E (nf c)) 1, hbh c hc] at q
  replace q := q.2 (by rw [b_lt (by omega) (by omega)]; exact hc)
  cases hst : s.testBit (c / 2) with
  | false =>
    rw [hst, if_neg (by decide)] at q
    obtain ⟨m, hm, hR⟩ := q.1 (by decide)
    exact ⟨m, gf, F, hm, hR, fun z => ⟨z, rfl⟩, Or.inl ⟨rfl, rfl⟩⟩
  | true =>
    rw [hst, if_pos rfl] at q
    replace q := q.2 rfl
    have hb01 := bh_le u c
    by_cases hz : bh u c = 0
    · replace q := q.2 hz
      by_cases ha : F (p + 1) (b + 2 * E c) = 4294967295
      · replace q := q.2 ha
        by_cases hb2 : F (p + 1) (b + 2 * E (nf c)) = k - 1
        · obtain ⟨m, hm, hR⟩ := q.1 hb2
          exact ⟨m, 1, _, hm, hR, fun z => (by cases z), Or.inr (Or.inl ⟨rfl, hz, rch_y ha hb2⟩)⟩
        · replace q := q.2 hb2
          by_cases hg : gf = 0
          · obtain ⟨m, hm, hR⟩ := q.1 hg
            exact ⟨m, 0, F, hm, hR, fun z => ⟨hg, rfl⟩, Or.inr (Or.inl ⟨rfl, hz, rch_n (fun z => hb2 z.2)⟩)⟩
          · obtain ⟨m, hm, hR⟩ := q.2 hg
            exact ⟨m, 1, F, hm, hR, fun z => (by cases z), Or.inr (Or.inl ⟨rfl, hz, rch_n (fun z => hb2 z.2)⟩)⟩
      · replace q := q.1 ha
        by_cases hg : gf = 0
        · obtain ⟨m, hm, hR⟩ := q.1 hg
          exact ⟨m, 0, F, hm, hR, fun z => ⟨hg, rfl⟩, Or.inr (Or.inl ⟨rfl, hz, rch_n (fun z => ha z.1)⟩)⟩
        · obtain ⟨m, hm, hR⟩ := q.2 hg
          exact ⟨m, 1, F, hm, hR, fun z => (by cases z), Or.inr (Or.inl ⟨rfl, hz, rch_n (fun z => ha z.1)⟩)⟩
    · replace q := q.1 hz
      have h1 : bh u c = 1 := by clear q; omega
      -- the second reach
      have fin : ∀ G : fx_F, G = rch F (p + 1) b (2 * E c) (2 * E (nf c) + 1) k → ∀ m g' F1, m < n → Rn m k_Ro_growLevel 5 [(2, p), (0, b), (0, k), (0, g'), (0, c + 1), (3, 0), (3, 0)] [] F1 v F' → (g' = 0 → gf = 0 ∧ F1 = F) → F1 = rch G (p + 1) b (2 * E c + 1) (2 * E (nf c) + 1) k → ∃ m g' F1, m < n ∧ Rn m k_Ro_growLevel 5 [(2, p), (0, b), (0, k), (0, g'), (0, c + 1), (3, 0), (3, 0)] [] F1 v F' ∧ (g' = 0 → gf = 0 ∧ F1 = F) ∧ ((true = false ∧ F1 = F) ∨ (true = true ∧ bh u c = 0 ∧ F1 = rch F (p + 1) b (2 * E c) (2 * E (nf c)) k) ∨ (true = true ∧ bh u c = 1 ∧ F1 = rch (rch F (p + 1) b (2 * E c) (2 * E (nf c) + 1) k) (p + 1) b (2 * E c + 1) (2 * E (nf c) + 1) k)) := by
        intro G hG m g' F1 hm hR hg hF
        exact ⟨m, g', F1, hm, hR, hg, Or.inr (Or.inr ⟨rfl, h1, by rw [hF, hG]⟩)⟩
      by_cases ha : F (p + 1) (b + 2 * E c) = 4294967295
      · replace q := q.2 ha
        by_cases hb2 : F (p + 1) (b + (2 * E (nf c) + 1)) = k - 1
        · replace q := q.1 hb2
          have hG := rch_y ha hb2
          by_cases hc2 : (fu F (p + 1) (b + 2 * E c) k) (p + 1) (b + (2 * E c + 1)) = 4294967295
          · replace q := q.2 hc2
            by_cases hd : (fu F (p + 1) (b + 2 * E c) k) (p + 1) (b + (2 * E (nf c) + 1)) = k - 1
            · obtain ⟨m, hm, hR⟩ := q.1 hd
              exact fin _ hG m _ _ hm hR (fun z => by cases z) (rch_y hc2 hd)
            · obtain ⟨m, hm, hR⟩ := q.2 hd
              exact fin _ hG m _ _ hm hR (fun z => by cases z) (rch_n (fun z => hd z.2))
          · obtain ⟨m, hm, hR⟩ := q.1 hc2
            exact fin _ hG m _ _ hm hR (fun z => by cases z) (rch_n (fun z => hc2 z.1))
        · replace q := q.2 hb2
          have hG : F = rch F (p + 1) b (2 * E c) (2 * E (nf c) + 1) k := rch_n (fun z => hb2 z.2)
          by_cases hg : gf = 0
          · replace q := q.1 hg
            by_cases hc2 : F (p + 1) (b + (2 * E c + 1)) = 4294967295
            · obtain ⟨m, hm, hR⟩ := (q.2 hc2).2 hb2
              exact fin _ hG m _ _ hm hR (fun z => ⟨hg, rfl⟩) (rch_n (fun z => hb2 z.2))
            · obtain ⟨m, hm, hR⟩ := q.1 hc2
              exact fin _ hG m _ _ hm hR (fun z => ⟨hg, rfl⟩) (rch_n (fun z => hc2 z.1))
          · replace q := q.2 hg
            by_cases hc2 : F (p + 1) (b + (2 * E c + 1)) = 4294967295
            · obtain ⟨m, hm, hR⟩ := (q.2 hc2).2 hb2
              exact fin _ hG m _ _ hm hR (fun z => by cases z) (rch_n (fun z => hb2 z.2))
            · obtain ⟨m, hm, hR⟩ := q.1 hc2
              exact fin _ hG m _ _ hm hR (fun z => by cases z) (rch_n (fun z => hc2 z.1))
      · replace q := q.1 ha
        have hG : F = rch F (p + 1) b (2 * E c) (2 * E (nf c) + 1) k := rch_n (fun z => ha z.1)
        by_cases hg : gf = 0
        · replace q := q.1 hg
          by_cases hc2 : F (p + 1) (b + (2 * E c + 1)) = 4294967295
          · by_cases hb2 : F (p + 1) (b + (2 * E (nf c) + 1)) = k - 1
            · obtain ⟨m, hm, hR⟩ := (q.2 hc2).1 hb2
              exact fin _ hG m _ _ hm hR (fun z => by cases z) (rch_y hc2 hb2)
            · obtain ⟨m, hm, hR⟩ := (q.2 hc2).2 hb2
              exact fin _ hG m _ _ hm hR (fun z => ⟨hg, rfl⟩) (rch_n (fun z => hb2 z.2))
          · obtain ⟨m, hm, hR⟩ := q.1 hc2
            exact fin _ hG m _ _ hm hR (fun z => ⟨hg, rfl⟩) (rch_n (fun z => hc2 z.1))
        · replace q := q.2 hg
          by_cases hc2 : F (p + 1) (b + (2 * E c + 1)) = 4294967295
          · by_cases hb2 : F (p + 1) (b + (2 * E (nf c) + 1)) = k - 1
            · obtain ⟨m, hm, hR⟩ := (q.2 hc2).1 hb2
              exact fin _ hG m _ _ hm hR (fun z => by cases z) (rch_y hc2 hb2)
            · obtain ⟨m, hm, hR⟩ := (q.2 hc2).2 hb2
              exact fin _ hG m _ _ hm hR (fun z => by cases z) (rch_n (fun z => hb2 z.2))
          · obtain ⟨m, hm, hR⟩ := q.1 hc2
            exact fin _ hG m _ _ hm hR (fun z => by cases z) (rch_n (fun z => hc2 z.1))
end CHOPS
