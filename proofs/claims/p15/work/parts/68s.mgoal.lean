section
/-! The reference's lengths -/
section MGOAL
variable {nn L g : Nat} {E : Nat → Nat} {st u : Nat → Bool} {v : fx_V} {F' : fx_F}
/-- what the reference's lengths need -/
def mgi (F : fx_F) (nn L : Nat) (E : Nat → Nat) (st u : Nat → Bool) : Prop := mn F nn L E ∧ (∀ l, l < L → st l = mst F l) ∧ mur F L E u
theorem mgi.keep {F F' : fx_F} (h : mgi F nn L E st u) {S : List Nat} (ho : fxo S F F') (h1 : 175 ∉ S) (h2 : 177 ∉ S) (h3 : 178 ∉ S) (h4 : 183 ∉ S) (h5 : 176 ∉ S) : mgi F' nn L E st u := ⟨h.1.keep ho h1 h2 h3 h4, fun l hl => by rw [h.2.1 l hl]; unfold mst; rw [ho 176 _ h5], fun l hl => (ho 176 _ h5).trans (h.2.2 l hl)⟩
/-- the row after some steps -/
def mgr (L : Nat) (E : Nat → Nat) (st u : Nat → Bool) (g : Nat) (row : Nat → Nat) : Prop := (∀ x, x < 20 → row x ≤ 100000 ∧ (row x < 100000 → gw L E st u g (row x) x)) ∧ row (2 * g) = 0 ∧ row (2 * g + 1) = 0
/-- what a step does -/
def mgs (L : Nat) (E : Nat → Nat) (st u : Nat → Bool) (g c s : Nat) (F F1 : fx_F) (fl fl' : Nat) : Prop := (¬ (st (c / 2) = true ∧ s ≤ bh u c) ∧ F1 = F ∧ fl' = fl) ∨ (st (c / 2) = true ∧ s ≤ bh u c ∧ ((F 193 (20 * g + (2 * E c + s)) ≤ 1 + F 193 (20 * g + (2 * E (nf c) + bh u c)) ∧ F1 = F ∧ fl' = fl) ∨ (1 + F 193 (20 * g + (2 * E (nf c) + bh u c)) < F 193 (20 * g + (2 * E c + s)) ∧ F1 = fu F 193 (20 * g + (2 * E c + s)) (1 + F 193 (20 * g + (2 * E (nf c) + bh u c))) ∧ fl' = 1)))
theorem mg_step (hN : nt_ok nn L E) (hg : g < nn) {n c s fl : Nat} {F : fx_F} (h : Rn n k_M_layGoal 81 [(2, 175), (0, g), (0, fl), (0, c), (0, s), (3, 0)] [] F v F') (hI : mgi F nn L E st u) (hr : ∀ x, x < 20 → F 193 (20 * g + x) ≤ 100000) (hc : c < 2 * L) (hs : s < 2) : ∃ m fl' F1, m < n ∧ Rn m k_M_layGoal 81 [(2, 175), (0, g), (0, fl'), (0, c), (0, s + 1), (3, 0)] [] F1 v F' ∧ mgs L E st u g c s F F1 fl fl' := by
  have hL := hN.2.1
  have hn := hN.1
  obtain ⟨hm, hst, hu⟩ := hI
  have e1 := (hN.2.2 c hc).1
  have e2 := (hN.2.2 _ (nf_lt hc)).1
  have sc : st (c / 2) = true ↔ F 176 (c / 2) = 1 := by rw [hst _ (by omega)]; exact rx_beq
  have up : E (nf c) = F 176 (20 + c / 2) ↔ isup u c = true := by rw [hu (c / 2) (by omega)]; exact isup_ue hN hc
  have bu : (E (nf c) = F 176 (20 + c / 2) → bh u c = 0) ∧ (E (nf c) ≠ F 176 (20 + c / 2) → bh u c = 1) := by
    unfold bh
    refine ⟨fun z => by rw [if_pos (up.mp z)], fun z => by rw [if_neg (fun y => z (up.mpr y))]⟩
  have ix : ∀ x t, x < 10 → t < 2 → i_add (i_add (i_mul 20 g) (i_mul 2 x)) t = 20 * g + (2 * x + t) := fun x t hx ht => by
    rw [b_mul (show 20 * g < 4294967296 by omega), b_mul (show 2 * x < 4294967296 by omega), b_add (show 20 * g + 2 * x < 4294967296 by omega), b_add (show 20 * g + 2 * x + t < 4294967296 by omega), Nat.add_assoc]
  have ad : ∀ x t, x < 10 → t < 2 → i_add 1 (F 193 (20 * g + (2 * x + t))) = 1 + F 193 (20 * g + (2 * x + t)) := fun x t hx ht => by
    have := hr (2 * x + t) (by omega)
    rw [b_add (by omega)]
  have ltx : ∀ x t y w, x < 10 → t < 2 → y < 10 → w < 2 → (s_lt (1 + F 193 (20 * g + (2 * x + t))) (F 193 (20 * g + (2 * y + w))) = (1 + F 193 (20 * g + (2 * x + t)) < F 193 (20 * g + (2 * y + w)))) ∧ (s_le (F 193 (20 * g + (2 * y + w))) (1 + F 193 (20 * g + (2 * x + t))) = (F 193 (20 * g + (2 * y + w)) ≤ 1 + F 193 (20 * g + (2 * x + t)))) := fun x t y w hx ht hy hw => by
    have := hr (2 * x + t) (by omega)
    have := hr (2 * y + w) (by omega)
    exact ⟨b_lt (by omega) (by omega), b_le (by omega) (by omega)⟩
  have e1 : E c < 10 := by omega
  have e2 : E (nf c) < 10 := by omega
  have q := q_M_layGoal_81 h
  have hs1 : s + 1 < 4294967296 := by clear q; omega
  have hd : c < 2147483648 := by clear q; omega
  rw [mTo hm hL hc, mFr hm hL hc, b_div hd (by decide) (by decide), b_add0 (show c / 2 < 4294967296 by clear q; omega), b_add (show 20 + c / 2 < 4294967296 by clear q; omega), b_add hs1, ix _ 1 e2 (by decide), ix _ 0 e2 (by decide), ix _ s e1 hs, ad _ 1 e2 (by decide), ad _ 0 e2 (by decide), (ltx _ 1 _ s e2 (by decide) e1 hs).1, (ltx _ 1 _ s e2 (by decide) e1 hs).2, (ltx _ 0 _ s e2 (by decide) e1 hs).1, (ltx _ 0 _ s e2 (by decide) e1 hs).2] at q
  replace q := q.2 (by rw [b_lt (by clear q; omega) (by decide)]; exact hs)
  by_cases hq : F 176 (c / 2) = 1
  · replace q := q.2 hq
    have hst1 := sc.mpr hq
    have fin : ∀ t, bh u c = t → s ≤ t → ((1 + F 193 (20 * g + (2 * E (nf c) + t)) < F 193 (20 * g + (2 * E c + s)) → ∃ m, m < n ∧ Rn m k_M_layGoal 81 [(2, 175), (0, g), (0, 1), (0, c), (0, s + 1), (3, 0)] [] (fu F 193 (20 * g + (2 * E c + s)) (1 + F 193 (20 * g + (2 * E (nf c) + t)))) v F') ∧ (F 193 (20 * g + (2 * E c + s)) ≤ 1 + F 193 (20 * g + (2 * E (nf c) + t)) → ∃ m, m < n ∧ Rn m k_M_layGoal 81 [(2, 175), (0, g), (0, fl), (0, c), (0, s + 1), (3, 0)] [] F v F')) → ∃ m fl' F1, m < n ∧ Rn m k_M_layGoal 81 [(2, 175), (0, g), (0, fl'), (0, c), (0, s + 1), (3, 0)] [] F1 v F' ∧ mgs L E st u g c s F F1 fl fl' := by
      clear q
      intro t ht hst2 q
      rcases Nat.lt_or_ge (1 + F 193 (20 * g + (2 * E (nf c) + t))) (F 193 (20 * g + (2 * E c + s))) with z | z
      · obtain ⟨m, hm, hR⟩ := q.1 z
        refine ⟨m, 1, _, hm, hR, Or.inr ⟨hst1, by rw [ht]; exact hst2, Or.inr ?_⟩⟩
        rw [ht]; exact ⟨z, rfl, rfl⟩
      · obtain ⟨m, hm, hR⟩ := q.2 z
        refine ⟨m, fl, _, hm, hR, Or.inr ⟨hst1, by rw [ht]; exact hst2, Or.inl ?_⟩⟩
        rw [ht]; exact ⟨z, rfl, rfl⟩
    by_cases hup : E (nf c) = F 176 (20 + c / 2)
    · by_cases h0 : s = 0
      · exact fin 0 (bu.1 hup) (by clear q; omega) (((q.1 h0).2 hup).2 (by clear q; omega))
      · obtain ⟨m, hm, hR⟩ := (q.2 h0).2 hup
        clear q
        exact ⟨m, fl, F, hm, hR, Or.inl ⟨fun z => by have := z.2; rw [bu.1 hup] at this; omega, rfl, rfl⟩⟩
    · by_cases h0 : s = 0
      · exact fin 1 (bu.2 hup) (by clear q; omega) (((q.1 h0).1 hup).2 (by clear q; omega))
      · exact fin 1 (bu.2 hup) (by clear q; omega) ((((q.2 h0).1 hup).1 hup).1 (by clear q; omega))
  · obtain ⟨m, hm, hR⟩ := q.1 hq
    exact ⟨m, fl, F, hm, hR, Or.inl ⟨fun z => hq (sc.mp z.1), rfl, rfl⟩⟩
/-- a row of lengths -/
def mrow (nn L : Nat) (E : Nat → Nat) (st u : Nat → Bool) (g : Nat) (row : Nat → Nat) : Prop := ∀ x, x < 2 * nn → row x ≤ 100000 ∧ (row x < 100000 → gd L E st u g (row x) x) ∧ ∀ d, gd L E st u g d x → row x = d
def mgo (F F' : fx_F) (g : Nat) : Prop := fxo [193] F F' ∧ ∀ j, (j < 20 * g ∨ 20 * g + 20 ≤ j) → F' 193 j = F 193 j
theorem mgo.rf {F : fx_F} : mgo F F g := ⟨fxo.rf, fun _ _ => rfl⟩
theorem mgo.wr {F F1 : fx_F} {x v : Nat} (hx : x < 20) (h : mgo F F1 g) : mgo F (fu F1 193 (20 * g + x) v) g := ⟨h.1.wr List.mem_cons_self, fun j hj => by rw [fu_i (by omega)]; exact h.2 j hj⟩
theorem s_layGoal (hN : nt_ok nn L E) (hg : g < nn) {F : fx_F} (hI : mgi F nn L E st u) (h : Cl k_M_layGoal [(2, 175), (0, g)] F v F') : v = (2, 0) ∧ mgo F F' g ∧ mrow nn L E st u g (fun x => F' 193 (20 * g + x)) := by
  obtain ⟨n, h⟩ := c_M_layGoal h
  obtain ⟨m, hm2, hR⟩ := q_M_layGoal_0 h
  have hL := hN.2.1
  have hn := hN.1
  have kp : ∀ F2 : fx_F, mgo F F2 g → mgi F2 nn L E st u := fun F2 ho => hI.keep ho.1 (by decide) (by decide) (by decide) (by decide) (by decide)
  -- an edge holds
  have hed : ∀ (row : Nat → Nat) (x y c : Nat), gc L E st u c x y → x = 2 * E c + x % 2 ∧ x % 2 ≤ bh u c ∧ y = 2 * E (nf c) + bh u c := fun row x y c h => ⟨by have := h.2.2.1; omega, h.2.2.2.1, h.2.2.2.2⟩
  have stp : ∀ (F2 F3 : fx_F) (c s fl fl' : Nat), c < 2 * L → s < 2 → mgo F F2 g → mgr L E st u g (fun x => F2 193 (20 * g + x)) → mgs L E st u g c s F2 F3 fl fl' → mgo F F3 g ∧ mgr L E st u g (fun x => F3 193 (20 * g + x)) ∧ (fl' = 0 → fl = 0 ∧ F3 = F2 ∧ ∀ x y, gc L E st u c x y → x % 2 = s → F3 193 (20 * g + x) ≤ 1 + F3 193 (20 * g + y)) := by
    intro F2 F3 c s fl fl' hc hs ho hr hS
    have e1 := (hN.2.2 c hc).1
    have e2 := (hN.2.2 _ (nf_lt hc)).1
    have hb := bh_le u c
    rcases hS with ⟨h1, h2, h3⟩ | ⟨h1, h2, ⟨h3, h4, h5⟩ | ⟨h3, h4, h5⟩⟩
    · subst h2
      exact ⟨ho, hr, fun z => ⟨by omega, rfl, fun x y hxy hx => absurd ⟨hxy.2.1, by have := hxy.2.2.2.1; omega⟩ h1⟩⟩
    · subst h4
      refine ⟨ho, hr, fun z => ⟨by omega, rfl, fun x y hxy hx => ?_⟩⟩
      obtain ⟨z1, z2, z3⟩ := hed (fun x => x) x y c hxy
      rw [z1, z3, hx]; exact h3
    · subst h4
      refine ⟨ho.wr (by omega), ⟨fun x hx => ?_, ?_, ?_⟩, fun z => by omega⟩
      · obtain ⟨r1, r2⟩ := hr.1 (2 * E (nf c) + bh u c) (by omega)
        replace r1 : F2 193 (20 * g + (2 * E (nf c) + bh u c)) ≤ 100000 := r1
        replace r2 : F2 193 (20 * g + (2 * E (nf c) + bh u c)) < 100000 → gw L E st u g (F2 193 (20 * g + (2 * E (nf c) + bh u c))) (2 * E (nf c) + bh u c) := r2
        obtain ⟨r3, r4⟩ := hr.1 (2 * E c + s) (by omega)
        replace r3 : F2 193 (20 * g + (2 * E c + s)) ≤ 100000 := r3
        show fu F2 193 (20 * g + (2 * E c + s)) (1 + F2 193 (20 * g + (2 * E (nf c) + bh u c))) 193 (20 * g + x) ≤ 100000 ∧ (fu F2 193 (20 * g + (2 * E c + s)) (1 + F2 193 (20 * g + (2 * E (nf c) + bh u c))) 193 (20 * g + x) < 100000 → gw L E st u g (fu F2 193 (20 * g + (2 * E c + s)) (1 + F2 193 (20 * g + (2 * E (nf c) + bh u c))) 193 (20 * g + x)) x)
        by_cases e : x = 2 * E c + s
        · subst e
          rw [fu_same]
          refine ⟨by omega, fun z => ?_⟩
          rw [Nat.add_comm 1]
          exact ⟨c, 2 * E (nf c) + bh u c, ⟨hc, h1, by omega, by omega, rfl⟩, r2 (by omega)⟩
        · rw [fu_i (by omega)]
          exact hr.1 x hx
      · show fu F2 193 (20 * g + (2 * E c + s)) (1 + F2 193 (20 * g + (2 * E (nf c) + bh u c))) 193 (20 * g + 2 * g) = 0
        have r2 : F2 193 (20 * g + 2 * g) = 0 := hr.2.1
        by_cases e : 2 * g = 2 * E c + s
        · rw [e] at r2; omega
        · rw [fu_i (by omega)]; exact r2
      · show fu F2 193 (20 * g + (2 * E c + s)) (1 + F2 193 (20 * g + (2 * E (nf c) + bh u c))) 193 (20 * g + (2 * g + 1)) = 0
        have r2 : F2 193 (20 * g + (2 * g + 1)) = 0 := hr.2.2
        by_cases e : 2 * g + 1 = 2 * E c + s
        · rw [e] at r2; omega
        · rw [fu_i (by omega)]; exact r2
  -- what all of it gives
  let P : Nat → Prop := fun n => ∀ (F2 : fx_F) (fl : Nat), Rn n k_M_layGoal 62 [(2, 175), (0, g), (0, fl), (3, 0), (3, 0), (3, 0)] [] F2 v F' → mgo F F2 g → mgr L E st u g (fun x => F2 193 (20 * g + x)) → (fl = 0 → ∀ c, c < 2 * L → ∀ x y, gc L E st u c x y → F2 193 (20 * g + x) ≤ 1 + F2 193 (20 * g + y)) → v = (2, 0) ∧ mgo F F' g ∧ mrow nn L E st u g (fun x => F' 193 (20 * g + x))
  have l81 : ∀ (N n : Nat), (∀ m, m < N → P m) → n < N → ∀ (F2 : fx_F) (fl c s : Nat), Rn n k_M_layGoal 81 [(2, 175), (0, g), (0, fl), (0, c), (0, s), (3, 0)] [] F2 v F' → c < 2 * L → s ≤ 2 → mgo F F2 g → mgr L E st u g (fun x => F2 193 (20 * g + x)) → (fl = 0 → (∀ c', c' < c → ∀ x y, gc L E st u c' x y → F2 193 (20 * g + x) ≤ 1 + F2 193 (20 * g + y)) ∧ ∀ x y, gc L E st u c x y → x % 2 < s → F2 193 (20 * g + x) ≤ 1 + F2 193 (20 * g + y)) → ∃ m fl' F3, m < n ∧ Rn m k_M_layGoal 70 [(2, 175), (0, g), (0, fl'), (0, c + 1), (3, 0), (3, 0)] [] F3 v F' ∧ mgo F F3 g ∧ mgr L E st u g (fun x => F3 193 (20 * g + x)) ∧ (fl' = 0 → ∀ c', c' < c + 1 → ∀ x y, gc L E st u c' x y → F3 193 (20 * g + x) ≤ 1 + F3 193 (20 * g + y)) := by
    intro N n hP
    induction n using Nat.strongRecOn with
    | ind n ih =>
      intro hnN F2 fl c s h hc hs ho hr hfl
      by_cases hs2 : s = 2
      · have q := q_M_layGoal_81 h
        obtain ⟨m, hm3, hR⟩ := q.1 (by rw [b_le (by decide) (by clear q; omega)]; clear q; omega)
        clear q
        rw [b_add (show c + 1 < 4294967296 by omega)] at hR
        refine ⟨m, fl, F2, hm3, hR, ho, hr, fun z c' hc' x y hxy => ?_⟩
        by_cases e : c' = c
        · subst e; exact (hfl z).2 x y hxy (by omega)
        · exact (hfl z).1 c' (by omega) x y hxy
      · obtain ⟨m, fl', F3, hm3, hR, hS⟩ := mg_step hN hg h (kp F2 ho) (fun x hx => (hr.1 x hx).1) hc (by omega)
        obtain ⟨k1, k2, k3⟩ := stp F2 F3 c s fl fl' hc (by omega) ho hr hS
        obtain ⟨m', fl2, F4, r1, r2⟩ := ih m hm3 (by omega) F3 fl' c (s + 1) hR hc (by omega) k1 k2 (fun z => by
          obtain ⟨z1, z2, z3⟩ := k3 z
          refine ⟨by rw [z2]; exact (hfl z1).1, fun x y hxy hx => ?_⟩
          by_cases e : x % 2 = s
          · exact z3 x y hxy e
          · rw [z2]; exact (hfl z1).2 x y hxy (by omega))
        exact ⟨m', fl2, F4, by omega, r2⟩
  have l70 : ∀ (N n : Nat), (∀ m, m < N → P m) → n < N → ∀ (F2 : fx_F) (fl c : Nat), Rn n k_M_layGoal 70 [(2, 175), (0, g), (0, fl), (0, c), (3, 0), (3, 0)] [] F2 v F' → c ≤ 2 * L → mgo F F2 g → mgr L E st u g (fun x => F2 193 (20 * g + x)) → (fl = 0 → ∀ c', c' < c → ∀ x y, gc L E st u c' x y → F2 193 (20 * g + x) ≤ 1 + F2 193 (20 * g + y)) → v = (2, 0) ∧ mgo F F' g ∧ mrow nn L E st u g (fun x => F' 193 (20 * g + x)) := by
    intro N n hP
    induction n using Nat.strongRecOn with
    | ind n ih =>
      intro hnN F2 fl c h hc ho hr hfl
      have q := q_M_layGoal_70 h
      rw [(kp F2 ho).1.2.2.1, b_mul (show 2 * L < 4294967296 by clear q; omega)] at q
      rcases Nat.lt_or_ge c (2 * L) with hlt | hge
      · obtain ⟨m, hm3, hR⟩ := q.2 (by rw [b_lt (by clear q; omega) (by clear q; omega)]; exact hlt)
        clear q
        obtain ⟨m', fl', F3, r1, r2, r3, r4, r5⟩ := l81 N m hP (by omega) F2 fl c 0 hR hlt (by omega) ho hr (fun z => ⟨hfl z, fun x y _ hx => absurd hx (Nat.not_lt_zero _)⟩)
        exact ih m' (by omega) (by omega) F3 fl' (c + 1) r2 (by omega) r3 r4 r5
      · obtain ⟨m, hm3, hR⟩ := q.1 (by rw [b_le (by clear q; omega) (by clear q; omega)]; exact hge)
        clear q
        exact hP m (by omega) F2 fl hR ho hr (fun z c' hc' => hfl z c' (by omega))
  have lP : ∀ n, P n := by
    intro n
    induction n using Nat.strongRecOn with
    | ind n ih =>
      intro F2 fl h ho hr hfl
      have q := q_M_layGoal_62 h
      by_cases hz : fl = 0
      · obtain ⟨x1, x2⟩ := q.1 hz
        subst x2
        refine ⟨x1, ho, ?_⟩
        have key : ∀ d x, gw L E st u g d x → F' 193 (20 * g + x) ≤ d := by
          intro d
          induction d with
          | zero =>
            intro x hx
            have hx : x / 2 = g := hx
            have r1 : F' 193 (20 * g + 2 * g) = 0 := hr.2.1
            have r2 : F' 193 (20 * g + (2 * g + 1)) = 0 := hr.2.2
            have hx2 : x = 2 * g ∨ x = 2 * g + 1 := by clear q; omega
            rcases hx2 with hx2 | hx2
            · rw [hx2, r1]; exact Nat.le_refl 0
            · rw [hx2, r2]; exact Nat.le_refl 0
          | succ d ihd =>
            rintro x ⟨c, y, h1, h2⟩
            have a := hfl hz c h1.1 x y h1
            have b := ihd y h2
            clear q
            omega
        intro x hx
        have hx20 : x < 20 := by clear q; omega
        refine ⟨(hr.1 x hx20).1, fun z => ⟨(hr.1 x hx20).2 z, fun e he hw => ?_⟩, fun d hd => ?_⟩
        · have := key e x hw
          have he : e < F' 193 (20 * g + x) := he
          clear q
          omega
        · have a := key d x hd.1
          have b := gd_lt hN hg hd
          clear q
          have c := (hr.1 x hx20).2 (show F' 193 (20 * g + x) < 100000 by omega)
          show F' 193 (20 * g + x) = d
          rcases Nat.lt_or_ge (F' 193 (20 * g + x)) d with z | z
          · exact absurd c (hd.2 _ z)
          · omega
      · obtain ⟨m, hm3, hR⟩ := q.2 hz
        exact l70 n m (fun m hm => ih m hm) hm3 F2 0 0 hR (Nat.zero_le _) ho hr (fun _ c' hc' => absurd hc' (Nat.not_lt_zero _))
  -- the beginning
  have l0 : ∀ (n : Nat) (F2 : fx_F) (i : Nat), Rn n k_M_layGoal 2 [(2, 175), (0, g), (0, i), (3, 0), (3, 0), (3, 0)] [] F2 v F' → i ≤ 10 → mgo F F2 g → (∀ x, x < 2 * i → F2 193 (20 * g + x) = if x / 2 = g then 0 else 100000) → v = (2, 0) ∧ mgo F F' g ∧ mrow nn L E st u g (fun x => F' 193 (20 * g + x)) := by
    intro n
    induction n using Nat.strongRecOn with
    | ind n ih =>
      intro F2 i h hi ho hx
      have q := q_M_layGoal_2 h
      rcases Nat.lt_or_ge i 10 with hlt | hge
      · replace q := q.2 (by rw [b_lt (by clear q; omega) (by decide)]; exact hlt)
        have i0 : i_add (i_add (i_mul 20 g) (i_mul 2 i)) 0 = 20 * g + 2 * i := by
          rw [b_mul (show 20 * g < 4294967296 by omega), b_mul (show 2 * i < 4294967296 by omega), b_add (show 20 * g + 2 * i < 4294967296 by omega), b_add (show 20 * g + 2 * i + 0 < 4294967296 by omega)]; rfl
        have i1 : i_add (i_add (i_mul 20 g) (i_mul 2 i)) 1 = 20 * g + (2 * i + 1) := by
          rw [b_mul (show 20 * g < 4294967296 by omega), b_mul (show 2 * i < 4294967296 by omega), b_add (show 20 * g + 2 * i < 4294967296 by omega), b_add (show 20 * g + 2 * i + 1 < 4294967296 by omega)]; rfl
        rw [b_add (show i + 1 < 4294967296 by clear q; omega), i0, i1] at q
        have fin : ∀ z m, z = (if i = g then 0 else 100000) → m < n → Rn m k_M_layGoal 2 [(2, 175), (0, g), (0, i + 1), (3, 0), (3, 0), (3, 0)] [] (fu (fu F2 193 (20 * g + 2 * i) z) 193 (20 * g + (2 * i + 1)) z) v F' → v = (2, 0) ∧ mgo F F' g ∧ mrow nn L E st u g (fun x => F' 193 (20 * g + x)) := by
          clear q
          intro z m hz hm3 hR
          refine ih m hm3 _ (i + 1) hR (by omega) ((ho.wr (by omega)).wr (by omega)) (fun x hx2 => ?_)
          by_cases e1 : x = 2 * i + 1
          · subst e1; rw [fu_same, hz, show (2 * i + 1) / 2 = i by omega]
          · rw [fu_i (by omega)]
            by_cases e2 : x = 2 * i
            · subst e2; rw [fu_same, hz, show 2 * i / 2 = i by omega]
            · rw [fu_i (by omega)]; exact hx x (by omega)
        by_cases e : i = g
        · obtain ⟨m, hm3, hR⟩ := (q.2 e).2 e
          exact fin 0 m (by rw [if_pos e]) hm3 hR
        · obtain ⟨m, hm3, hR⟩ := (q.1 e).1 e
          exact fin 100000 m (by rw [if_neg e]) hm3 hR
      · obtain ⟨m, hm3, hR⟩ := q.1 (by rw [b_le (by decide) (by clear q; omega)]; exact hge)
        clear q
        have i10 : i = 10 := by omega
        subst i10
        refine lP m F2 1 hR ho ⟨fun x hx2 => ?_, ?_, ?_⟩ (fun z => by cases z)
        · show F2 193 (20 * g + x) ≤ 100000 ∧ (F2 193 (20 * g + x) < 100000 → gw L E st u g (F2 193 (20 * g + x)) x)
          rw [hx x (by omega)]
          by_cases e : x / 2 = g
          · rw [if_pos e]; exact ⟨by decide, fun _ => e⟩
          · rw [if_neg e]; exact ⟨Nat.le_refl _, fun z => absurd z (Nat.lt_irrefl _)⟩
        · show F2 193 (20 * g + 2 * g) = 0
          rw [hx (2 * g) (by omega), if_pos (by omega)]
        · show F2 193 (20 * g + (2 * g + 1)) = 0
          rw [hx (2 * g + 1) (by omega), if_pos (by omega)]
  exact l0 m F 0 hR (Nat.zero_le _) mgo.rf (fun x hx => absurd hx (Nat.not_lt_zero _))
/-- all rows -/
theorem s_layGoals (hN : nt_ok nn L E) {F : fx_F} (hI : mgi F nn L E st u) (h : Cl k_M_layGoals [(2, 175)] F v F') : v = (2, 0) ∧ fxo [193] F F' ∧ ∀ g, g < nn → mrow nn L E st u g (fun x => F' 193 (20 * g + x)) := by
  obtain ⟨n, h⟩ := c_M_layGoals h
  obtain ⟨m, hm2, hR⟩ := q_M_layGoals_0 h
  have hL := hN.2.1
  have hn := hN.1
  have lp : ∀ (n : Nat) (F2 : fx_F) (g : Nat), Rn n k_M_layGoals 2 [(2, 175), (0, g)] [] F2 v F' → g ≤ nn → fxo [193] F F2 → (∀ g', g' < g → mrow nn L E st u g' (fun x => F2 193 (20 * g' + x))) → v = (2, 0) ∧ fxo [193] F F' ∧ ∀ g, g < nn → mrow nn L E st u g (fun x => F' 193 (20 * g + x)) := by
    intro n
    induction n using Nat.strongRecOn with
    | ind n ih =>
      intro F2 g h hg ho hA
      have hI2 := hI.keep ho (by decide) (by decide) (by decide) (by decide) (by decide)
      have q := q_M_layGoals_2 h
      rw [hI2.1.2.1] at q
      rcases Nat.lt_or_ge g nn with hlt | hge
      · obtain ⟨F1, c1, m, hm3, hR⟩ := q.2 (by rw [b_lt (by clear q; omega) (by clear q; omega)]; exact hlt)
        clear q
        rw [b_add (show g + 1 < 4294967296 by omega)] at hR
        obtain ⟨-, y2, y3⟩ := s_layGoal hN hlt hI2 c1
        refine ih m hm3 F1 (g + 1) hR (by omega) (ho.tr y2.1) (fun g' hg' => ?_)
        by_cases e : g' = g
        · subst e; exact y3
        · intro x hx
          have := hA g' (by omega) x hx
          show F1 193 (20 * g' + x) ≤ 100000 ∧ (F1 193 (20 * g' + x) < 100000 → gd L E st u g' (F1 193 (20 * g' + x)) x) ∧ ∀ d, gd L E st u g' d x → F1 193 (20 * g' + x) = d
          rw [y2.2 (20 * g' + x) (by omega)]
          exact this
      · obtain ⟨x1, x2⟩ := q.1 (by rw [b_le (by clear q; omega) (by clear q; omega)]; exact hge)
        clear q
        subst x2
        exact ⟨x1, ho, fun g' hg' => hA g' (by omega)⟩
  exact lp m F 0 hR (Nat.zero_le _) fxo.rf (fun g' hg' => absurd hg' (Nat.not_lt_zero _))
end MGOAL
end
section
/-! Channels by which a shortest way goes on -/
def lds (L : Nat) (E : Nat → Nat) (st u : Nat → Bool) (g c s : Nat) : Prop := ∃ d, gc L E st u c (2 * E c + s) (2 * E (nf c) + bh u c) ∧ gd L E st u g (d + 1) (2 * E c + s) ∧ gd L E st u g d (2 * E (nf c) + bh u c)
section NEXT
variable {nn L s p g up : Nat} {E : Nat → Nat} {st u : Nat → Bool} {v : fx_V} {F' : fx_F}
theorem s_leadsOn (hN : nt_ok nn L E) (hg : g < nn) (hs : s < 2147483648) (hp : 24 ≤ p) {c t : Nat} (hc : c < 2 * L) (ht : t < 2) {F : fx_F} (hcn : cn F nn L E) (hr : rcs F nn L E p up s) (h : Cl k_Ro_leadsOn [(2, p), (0, g), (0, c), (0, t)] F v F') : F' = F ∧ ((v = (0, 1) ∧ lds L E (bts s) (bts up) g c t) ∨ (v = (0, 0) ∧ ¬ lds L E (bts s) (bts up) g c t)) := by
  obtain ⟨n, h⟩ := c_Ro_leadsOn h
  have hL := hN.2.1
  have hn := hN.1
  have e1 : E c < nn := (hN.2.2 c hc).1
  have e2 : E (nf c) < nn := (hN.2.2 _ (nf_lt hc)).1
  obtain ⟨r1, r2, r3, r4, r5⟩ := hr
  have hb := bh_le (bts up) c
  have hx := r5 g hg (2 * E c + t) (by omega)
  have hy := r5 g hg (2 * E (nf c) + bh (bts up) c) (by omega)
  replace hx : (F (p + 1) (20 * g + (2 * E c + t)) ≠ 4294967295 → gd L E (bts s) (bts up) g (F (p + 1) (20 * g + (2 * E c + t))) (2 * E c + t)) ∧ ∀ d, gd L E (bts s) (bts up) g d (2 * E c + t) → F (p + 1) (20 * g + (2 * E c + t)) = d := hx
  replace hy : (F (p + 1) (20 * g + (2 * E (nf c) + bh (bts up) c)) ≠ 4294967295 → gd L E (bts s) (bts up) g (F (p + 1) (20 * g + (2 * E (nf c) + bh (bts up) c))) (2 * E (nf c) + bh (bts up) c)) ∧ ∀ d, gd L E (bts s) (bts up) g d (2 * E (nf c) + bh (bts up) c) → F (p + 1) (20 * g + (2 * E (nf c) + bh (bts up) c)) = d := hy
  have hlt : F (p + 1) (20 * g + (2 * E c + t)) ≠ 4294967295 → F (p + 1) (20 * g + (2 * E c + t)) < 20 := fun z => by
    have := gd_lt hN hg (hx.1 z); omega
  have i1 : i_add (i_add (i_mul g 20) (i_mul 2 (E c))) t = 20 * g + (2 * E c + t) := by
    rw [b_mul (show g * 20 < 4294967296 by omega), b_mul (show 2 * E c < 4294967296 by omega), b_add (show g * 20 + 2 * E c < 4294967296 by omega), b_add (show g * 20 + 2 * E c + t < 4294967296 by omega)]; omega
  have i2 : i_add (i_mul g 20) (i_add (i_mul 2 (E (nf c))) (bh (bts up) c)) = 20 * g + (2 * E (nf c) + bh (bts up) c) := by
    rw [b_mul (show g * 20 < 4294967296 by omega), b_mul (show 2 * E (nf c) < 4294967296 by omega), b_add (show 2 * E (nf c) + bh (bts up) c < 4294967296 by omega), b_add (show g * 20 + (2 * E (nf c) + bh (bts up) c) < 4294967296 by omega)]; omega
  have q := q_Ro_leadsOn_0 h
  rw [r2, b_bit hs (show c < 64 by clear q; omega), (hcn.2.2 c hc).1, (hcn.2.2 c hc).2, r4 c hc, i1, i2] at q
  have no : ¬ lds L E (bts s) (bts up) g c t → v = (0, 0) ∧ F' = F → F' = F ∧ ((v = (0, 1) ∧ lds L E (bts s) (bts up) g c t) ∨ (v = (0, 0) ∧ ¬ lds L E (bts s) (bts up) g c t)) := fun z ⟨x1, x2⟩ => ⟨x2, Or.inr ⟨x1, z⟩⟩
  cases hst : s.testBit (c / 2) with
  | false =>
    rw [hst, if_neg (by decide)] at q
    refine no (fun ⟨d, z, _⟩ => ?_) (q.1 (by decide))
    have := z.2.1
    rw [show bts s (c / 2) = s.testBit (c / 2) from rfl, hst] at this
    cases this
  | true =>
    rw [hst, if_pos rfl] at q
    replace q := q.2 rfl
    rcases Nat.lt_or_ge (bh (bts up) c) t with z | z
    · refine no (fun ⟨d, y, _⟩ => ?_) (q.2 (by rw [b_lt (by clear q; omega) (by clear q; omega)]; exact z))
      have := y.2.2.2.1
      clear q
      omega
    · replace q := q.1 (by rw [b_le (by clear q; omega) (by clear q; omega)]; exact z)
      have hgc : gc L E (bts s) (bts up) c (2 * E c + t) (2 * E (nf c) + bh (bts up) c) := ⟨hc, hst, by clear q; omega, by clear q; omega, rfl⟩
      by_cases w : F (p + 1) (20 * g + (2 * E c + t)) = 4294967295
      · rw [w] at q
        refine no (fun ⟨d, _, y, _⟩ => ?_) (q.1 (by rw [b_le_m2 (by decide)]; trivial))
        have a := hx.2 _ y
        have b := gd_lt hN hg y
        clear q
        omega
      · have w2 := hlt w
        by_cases w0 : F (p + 1) (20 * g + (2 * E c + t)) = 0
        · refine no (fun ⟨d, _, y, _⟩ => ?_) (q.1 (by rw [w0, b_le (by decide) (by decide)]; exact Nat.le_refl 0))
          have a := hx.2 _ y
          clear q
          omega
        · replace q := q.2 (by rw [b_lt (by decide) (by clear q; omega)]; clear q; omega)
          rw [b_sub (show 1 ≤ _ by clear q; omega) (by clear q; omega)] at q
          by_cases w3 : F (p + 1) (20 * g + (2 * E (nf c) + bh (bts up) c)) = F (p + 1) (20 * g + (2 * E c + t)) - 1
          · obtain ⟨x1, x2⟩ := q.2 w3
            clear q
            refine ⟨x2, Or.inl ⟨x1, F (p + 1) (20 * g + (2 * E c + t)) - 1, hgc, ?_, ?_⟩⟩
            · rw [show F (p + 1) (20 * g + (2 * E c + t)) - 1 + 1 = F (p + 1) (20 * g + (2 * E c + t)) by omega]
              exact hx.1 w
            · rw [← w3]; exact hy.1 (by omega)
          · refine no (fun ⟨d, _, y, y2⟩ => w3 ?_) (q.1 w3)
            have a := hx.2 _ y
            have b := hy.2 _ y2
            clear q
            omega
theorem s_isNext (hN : nt_ok nn L E) (hg : g < nn) {c t : Nat} (hc : c < 2 * L) (ht : t < 2) {F : fx_F} (hI : mgi F nn L E st u) (hr : mrow nn L E st u g (fun x => F 193 (20 * g + x))) (h : Cl k_M_isNext [(2, 175), (0, g), (0, c), (0, t)] F v F') : F' = F ∧ ((v = (0, 1) ∧ lds L E st u g c t) ∨ (v = (0, 0) ∧ ¬ lds L E st u g c t)) := by
  obtain ⟨n, h⟩ := c_M_isNext h
  have hL := hN.2.1
  have hn := hN.1
  have e1 : E c < nn := (hN.2.2 c hc).1
  have e2 : E (nf c) < nn := (hN.2.2 _ (nf_lt hc)).1
  obtain ⟨hm, hst, hu⟩ := hI
  have hb := bh_le u c
  have sc : st (c / 2) = true ↔ F 176 (c / 2) = 1 := by rw [hst _ (by omega)]; exact rx_beq
  have upc : E (nf c) = F 176 (20 + c / 2) ↔ isup u c = true := by rw [hu (c / 2) (by omega)]; exact isup_ue hN hc
  have bu : (E (nf c) = F 176 (20 + c / 2) → bh u c = 0) ∧ (E (nf c) ≠ F 176 (20 + c / 2) → bh u c = 1) := by
    unfold bh
    refine ⟨fun z => by rw [if_pos (upc.mp z)], fun z => by rw [if_neg (fun y => z (upc.mpr y))]⟩
  have ix : ∀ x t, x < nn → t < 2 → i_add (i_add (i_mul 20 g) (i_mul 2 x)) t = 20 * g + (2 * x + t) := fun x t hx ht => by
    rw [b_mul (show 20 * g < 4294967296 by omega), b_mul (show 2 * x < 4294967296 by omega), b_add (show 20 * g + 2 * x < 4294967296 by omega), b_add (show 20 * g + 2 * x + t < 4294967296 by omega), Nat.add_assoc]
  have hle : ∀ x t, x < nn → t < 2 → F 193 (20 * g + (2 * x + t)) ≤ 100000 := fun x t hx ht => (hr (2 * x + t) (by omega)).1
  have ad : ∀ x t, x < nn → t < 2 → i_add 1 (F 193 (20 * g + (2 * x + t))) = 1 + F 193 (20 * g + (2 * x + t)) := fun x t hx ht => by
    have := hle x t hx ht
    rw [b_add (by omega)]
  have lt1 : s_lt (F 193 (20 * g + (2 * E c + t))) 100000 = (F 193 (20 * g + (2 * E c + t)) < 100000) := by
    have := hle _ _ e1 ht
    exact b_lt (by omega) (by decide)
  have le1 : s_le 100000 (F 193 (20 * g + (2 * E c + t))) = (100000 ≤ F 193 (20 * g + (2 * E c + t))) := by
    have := hle _ _ e1 ht
    exact b_le (by decide) (by omega)
  have hx := hr (2 * E c + t) (by omega)
  replace hx : F 193 (20 * g + (2 * E c + t)) ≤ 100000 ∧ (F 193 (20 * g + (2 * E c + t)) < 100000 → gd L E st u g (F 193 (20 * g + (2 * E c + t))) (2 * E c + t)) ∧ ∀ d, gd L E st u g d (2 * E c + t) → F 193 (20 * g + (2 * E c + t)) = d := hx
  have hy := hr (2 * E (nf c) + bh u c) (by omega)
  replace hy : F 193 (20 * g + (2 * E (nf c) + bh u c)) ≤ 100000 ∧ (F 193 (20 * g + (2 * E (nf c) + bh u c)) < 100000 → gd L E st u g (F 193 (20 * g + (2 * E (nf c) + bh u c))) (2 * E (nf c) + bh u c)) ∧ ∀ d, gd L E st u g d (2 * E (nf c) + bh u c) → F 193 (20 * g + (2 * E (nf c) + bh u c)) = d := hy
  have q := q_M_isNext_0 h
  have hd : c < 2147483648 := by clear q; omega
  rw [mTo hm hL hc, mFr hm hL hc, b_div hd (by decide) (by decide), b_add0 (show c / 2 < 4294967296 by clear q; omega), b_add (show 20 + c / 2 < 4294967296 by clear q; omega), ix _ t e1 ht, ix _ 1 e2 (by decide), ix _ 0 e2 (by decide), ad _ 1 e2 (by decide), ad _ 0 e2 (by decide), lt1, le1] at q
  have no : ¬ lds L E st u g c t → v = (0, 0) ∧ F' = F → F' = F ∧ ((v = (0, 1) ∧ lds L E st u g c t) ∨ (v = (0, 0) ∧ ¬ lds L E st u g c t)) := fun z ⟨x1, x2⟩ => ⟨x2, Or.inr ⟨x1, z⟩⟩
  by_cases hq : F 176 (c / 2) = 1
  · replace q := q.2 hq
    have hst1 := sc.mpr hq
    have far : 100000 ≤ F 193 (20 * g + (2 * E c + t)) → ¬ lds L E st u g c t := fun z ⟨d, _, y, _⟩ => by
      have a := hx.2.2 _ y
      have b := gd_lt hN hg y
      clear q
      omega
    have fin : t ≤ bh u c → ((F 193 (20 * g + (2 * E c + t)) ≠ 1 + F 193 (20 * g + (2 * E (nf c) + bh u c)) → v = (0, 0) ∧ F' = F) ∧ (F 193 (20 * g + (2 * E c + t)) = 1 + F 193 (20 * g + (2 * E (nf c) + bh u c)) → v = (0, 1) ∧ F' = F)) → F 193 (20 * g + (2 * E c + t)) < 100000 → F' = F ∧ ((v = (0, 1) ∧ lds L E st u g c t) ∨ (v = (0, 0) ∧ ¬ lds L E st u g c t)) := by
      clear q
      intro hle2 q hlt
      by_cases e : F 193 (20 * g + (2 * E c + t)) = 1 + F 193 (20 * g + (2 * E (nf c) + bh u c))
      · obtain ⟨x1, x2⟩ := q.2 e
        refine ⟨x2, Or.inl ⟨x1, F 193 (20 * g + (2 * E (nf c) + bh u c)), ⟨hc, hst1, by omega, by omega, rfl⟩, ?_, hy.2.1 (by omega)⟩⟩
        have := hx.2.1 hlt
        rw [e, Nat.add_comm] at this
        exact this
      · refine no (fun ⟨d, _, y, y2⟩ => e ?_) (q.1 e)
        have a := hx.2.2 _ y
        have b := hy.2.2 _ y2
        omega
    have cut : F 193 (20 * g + (2 * E c + t)) < 100000 ∨ 100000 ≤ F 193 (20 * g + (2 * E c + t)) := Nat.lt_or_ge _ _
    by_cases hup : E (nf c) = F 176 (20 + c / 2)
    · have b0 := bu.1 hup
      by_cases h0 : t = 0
      · rcases cut with z | z
        · refine fin (by clear q; omega) ?_ z
          rw [b0]
          exact (((q.1 h0).2 z).2 hup).2 (by clear q; omega)
        · exact no (far z) ((q.1 h0).1 z)
      · refine no (fun ⟨d, y, _⟩ => ?_) ((q.2 h0).2 hup)
        have := y.2.2.2.1
        clear q
        omega
    · have b1 := bu.2 hup
      by_cases h0 : t = 0
      · rcases cut with z | z
        · refine fin (by clear q; omega) ?_ z
          rw [b1]
          exact (((q.1 h0).2 z).1 hup).2 (by clear q; omega)
        · exact no (far z) ((q.1 h0).1 z)
      · rcases cut with z | z
        · refine fin (by clear q; omega) ?_ z
          rw [b1]
          exact ((((q.2 h0).1 hup).2 z).1 hup).1 (by clear q; omega)
        · exact no (far z) (((q.2 h0).1 hup).1 z)
  · exact no (fun ⟨d, y, _⟩ => hq (sc.mp y.2.1)) (q.1 hq)
/-- of the first k channels the one that is least used, of those that Q takes -/
noncomputable def lus (Q : Nat → Prop) (us : Nat → Nat) : Nat → Nat
  | 0 => 4294967295
  | k + 1 => @ite Nat (Q k ∧ (lus Q us k = 4294967295 ∨ us k < us (lus Q us k))) (Classical.propDecidable _) k (lus Q us k)
theorem lus_y {Q : Nat → Prop} {us : Nat → Nat} {k : Nat} (h : Q k) (h2 : lus Q us k = 4294967295 ∨ us k < us (lus Q us k)) : lus Q us (k + 1) = k := if_pos ⟨h, h2⟩
theorem lus_n {Q : Nat → Prop} {us : Nat → Nat} {k : Nat} (h : Q k → lus Q us k ≠ 4294967295 ∧ us (lus Q us k) ≤ us k) : lus Q us (k + 1) = lus Q us k := if_neg (fun z => by
  have := h z.1
  rcases z.2 with y | y
  · exact this.1 y
  · omega)
theorem lus_q {Q : Nat → Prop} {us : Nat → Nat} : ∀ k, lus Q us k = 4294967295 ∨ (lus Q us k < k ∧ Q (lus Q us k))
  | 0 => Or.inl rfl
  | k + 1 => by
    by_cases h : Q k ∧ (lus Q us k = 4294967295 ∨ us k < us (lus Q us k))
    · rw [lus_y h.1 h.2]; exact Or.inr ⟨by omega, h.1⟩
    · have : lus Q us (k + 1) = lus Q us k := if_neg h
      rw [this]
      rcases lus_q (Q := Q) (us := us) k with z | z
      · exact Or.inl z
      · exact Or.inr ⟨by omega, z.2⟩
theorem lus_congr {Q Q2 : Nat → Prop} {us us2 : Nat → Nat} : ∀ {k}, k < 4294967295 → (∀ c, c < k → (Q c ↔ Q2 c)) → (∀ c, c < k → us c = us2 c) → lus Q us k = lus Q2 us2 k
  | 0, _, _, _ => rfl
  | k + 1, hk, h, h2 => by
    have ih := lus_congr (k := k) (by omega) (fun c hc => h c (by omega)) (fun c hc => h2 c (by omega))
    have hq := h k (by omega)
    have hu := h2 k (by omega)
    have hl := lus_q (Q := Q) (us := us) k
    have e : (lus Q us k = 4294967295 ∨ us k < us (lus Q us k)) ↔ (lus Q2 us2 k = 4294967295 ∨ us2 k < us2 (lus Q2 us2 k)) := by
      rw [← ih, ← hu]
      rcases hl with z | z
      · exact ⟨fun _ => Or.inl z, fun _ => Or.inl z⟩
      · rw [h2 _ (show lus Q us k < k + 1 by omega)]
    by_cases y : Q k ∧ (lus Q us k = 4294967295 ∨ us k < us (lus Q us k))
    · rw [lus_y y.1 y.2, lus_y (hq.mp y.1) (e.mp y.2)]
    · rw [show lus Q us (k + 1) = lus Q us k from if_neg y, show lus Q2 us2 (k + 1) = lus Q2 us2 k from if_neg (fun z => y ⟨hq.mpr z.1, e.mpr z.2⟩), ih]
theorem lus_gap {Q : Nat → Prop} {us : Nat → Nat} {k : Nat} : ∀ j, (∀ c, k ≤ c → c < k + j → ¬ Q c) → lus Q us (k + j) = lus Q us k
  | 0, _ => rfl
  | j + 1, h => by
    show lus Q us (k + j + 1) = _
    rw [lus_n (fun z => absurd z (h (k + j) (by omega) (by omega))), lus_gap j (fun c h1 h2 => h c h1 (by omega))]
theorem lus_gap2 {Q : Nat → Prop} {us : Nat → Nat} {k m : Nat} (hkm : k ≤ m) (h : ∀ c, k ≤ c → c < m → ¬ Q c) : lus Q us m = lus Q us k := by
  have := lus_gap (Q := Q) (us := us) (k := k) (m - k) (fun c h1 h2 => h c h1 (by omega))
  rw [show k + (m - k) = m by omega] at this
  exact this
end NEXT
end
section
/-! The least used channel -/
theorem cnt_nth {p : Nat → Bool} : ∀ {N j : Nat}, j < cnt p N → ∃ c, c < N ∧ p c = true ∧ cnt p c = j
  | 0, j, h => absurd h (Nat.not_lt_zero _)
  | N + 1, j, h => by
    have h : j < cnt p N + (if p N then 1 else 0) := h
    by_cases e : j < cnt p N
    · obtain ⟨c, h1, h2, h3⟩ := cnt_nth e
      exact ⟨c, by omega, h2, h3⟩
    · cases hp : p N with
      | false => rw [hp, if_neg (by decide)] at h; omega
      | true => rw [hp, if_pos rfl] at h; exact ⟨N, by omega, hp, by omega⟩
theorem cnt_up {p : Nat → Bool} {k : Nat} : ∀ j, cnt p k ≤ cnt p (k + j)
  | 0 => Nat.le_refl _
  | j + 1 => Nat.le_trans (cnt_up j) (by show cnt p (k + j) ≤ cnt p (k + j) + _; omega)
theorem cnt_up2 {p : Nat → Bool} {k m : Nat} (h : k ≤ m) : cnt p k ≤ cnt p m := by
  have := cnt_up (p := p) (k := k) (m - k)
  rw [show k + (m - k) = m by omega] at this
  exact this
theorem cnt_none {p : Nat → Bool} {k m c : Nat} (he : cnt p k = cnt p m) (h1 : k ≤ c) (h2 : c < m) : p c = false := by
  cases hp : p c with
  | false => rfl
  | true =>
    have a := cnt_up2 (p := p) h1
    have b := cnt_up2 (p := p) (show c + 1 ≤ m from h2)
    have d : cnt p (c + 1) = cnt p c + 1 := by
      show cnt p c + (if p c then 1 else 0) = _
      rw [hp, if_pos rfl]
    omega
section LEAST
variable {nn L s p g up : Nat} {E : Nat → Nat} {st u : Nat → Bool} {v : fx_V} {F' : fx_F}
/-- the class lists each switch's channels -/
def ocl (F : fx_F) (nn L : Nat) (E : Nat → Nat) : Prop := (∀ w, w ≤ nn → F 6 w ≤ 40) ∧ ∀ w, w < nn → F 6 (w + 1) = F 6 w + cnt (fun c => Nat.beq (E c) w) (2 * L) ∧ ∀ c, c < 2 * L → E c = w → F 7 (F 6 w + cnt (fun c => Nat.beq (E c) w) c) = c
theorem ocl.keep {F F' : fx_F} (h : ocl F nn L E) {S : List Nat} (ho : fxo S F F') (h6 : 6 ∉ S) (h7 : 7 ∉ S) : ocl F' nn L E := ⟨fun w hw => by rw [ho 6 _ h6]; exact h.1 w hw, fun w hw => by
  rw [ho 6 _ h6, ho 6 _ h6]
  exact ⟨(h.2 w hw).1, fun c hc he => by rw [ho 7 _ h7]; exact (h.2 w hw).2 c hc he⟩⟩
/-- the channels that go on from node w in state t -/
def lq (L : Nat) (E : Nat → Nat) (st u : Nat → Bool) (g w t : Nat) (c : Nat) : Prop := E c = w ∧ lds L E st u g c t
theorem s_cleast (hN : nt_ok nn L E) (hg : g < nn) (hs : s < 2147483648) (hp : 24 ≤ p) {w t : Nat} (hw : w < nn) (ht : t < 2) {F : fx_F} (hcn : cn F nn L E) (hol : ocl F nn L E) (hr : rcs F nn L E p up s) (hus : ∀ c, c < 2 * L → F (p + 3) c < 2147483648) (h : Cl k_Ro_leastUsed [(2, p), (0, g), (0, w), (0, t)] F v F') : F' = F ∧ v = (0, lus (lq L E (bts s) (bts up) g w t) (F (p + 3)) (2 * L)) := by
  obtain ⟨n, h⟩ := c_Ro_leastUsed h
  obtain ⟨m, hm2, hR⟩ := q_Ro_leastUsed_0 h
  have hL := hN.2.1
  have hn := hN.1
  obtain ⟨o1, o2⟩ := hol.2 w hw
  have ob := hol.1 (w + 1) (by omega)
  generalize hcp : (fun c => Nat.beq (E c) w) = cp at o1 o2
  have hcp2 : ∀ c, cp c = true ↔ E c = w := fun c => by rw [← hcp]; exact rx_beq
  have lp : ∀ (n k : Nat), Rn n k_Ro_leastUsed 14 [(2, p), (0, g), (0, w), (0, t), (0, lus (lq L E (bts s) (bts up) g w t) (F (p + 3)) k), (0, F 6 w + cnt cp k), (3, 0)] [] F v F' → k ≤ 2 * L → F' = F ∧ v = (0, lus (lq L E (bts s) (bts up) g w t) (F (p + 3)) (2 * L)) := by
    intro n
    induction n using Nat.strongRecOn with
    | ind n ih =>
      intro k h hk
      have hck := cnt_up2 (p := cp) hk
      have q := q_Ro_leastUsed_14 h
      rw [b_add (show w + 1 < 4294967296 by clear q; omega), o1] at q
      by_cases e : cnt cp k = cnt cp (2 * L)
      · obtain ⟨x1, x2⟩ := q.1 (by rw [b_le (by clear q; omega) (by clear q; omega)]; clear q; omega)
        clear q
        refine ⟨x2, x1.trans ?_⟩
        rw [lus_gap2 (us := F (p + 3)) hk (fun c h1 h2 hq => ?_)]
        have := cnt_none e h1 h2
        rw [(hcp2 c).mpr hq.1] at this
        cases this
      · obtain ⟨n1, F1, c1, q1, q2⟩ := q.2 (by rw [b_lt (by clear q; omega) (by clear q; omega)]; clear q; omega)
        clear q
        obtain ⟨c, hc, hpc, hcc⟩ := cnt_nth (show cnt cp k < cnt cp (2 * L) by clear q1 q2; omega)
        have hEc := (hcp2 c).mp hpc
        have h7 : F 7 (F 6 w + cnt cp k) = c := by rw [← hcc]; exact o2 c hc hEc
        have hkc : k ≤ c := by
          rcases Nat.lt_or_ge c k with z | z
          · have a := cnt_up2 (p := cp) (show c + 1 ≤ k from z)
            have d : cnt cp (c + 1) = cnt cp c + 1 := by
              show cnt cp c + (if cp c then 1 else 0) = _
              rw [hpc, if_pos rfl]
            clear q1 q2
            omega
          · exact z
        have d : cnt cp (c + 1) = cnt cp k + 1 := by
          show cnt cp c + (if cp c then 1 else 0) = _
          rw [hpc, if_pos rfl, hcc]
        have hlk : lus (lq L E (bts s) (bts up) g w t) (F (p + 3)) k = lus (lq L E (bts s) (bts up) g w t) (F (p + 3)) c := (lus_gap2 hkc (fun c' h1 h2 hq => by
          have := cnt_none (p := cp) (k := k) (m := c) hcc.symm h1 h2
          rw [(hcp2 c').mpr hq.1] at this
          cases this)).symm
        have ei : i_add (F 6 w + cnt cp k) 1 = F 6 w + cnt cp (c + 1) := by
          rw [b_add (by clear q1 q2; omega), d]; rfl
        rw [h7] at c1 q2
        rw [ei, hlk] at q1 q2
        obtain ⟨a1, a2⟩ := s_leadsOn hN hg hs hp hc ht hcn hr c1
        subst a1
        have hl := lus_q (Q := lq L E (bts s) (bts up) g w t) (us := F1 (p + 3)) c
        have hc1 : c + 1 ≤ 2 * L := hc
        rcases a2 with ⟨e1, e2⟩ | ⟨e1, e2⟩
        · cases e1
          have hQ : lq L E (bts s) (bts up) g w t c := ⟨hEc, e2⟩
          obtain ⟨q3, q4⟩ := q2 (by decide)
          by_cases y : lus (lq L E (bts s) (bts up) g w t) (F1 (p + 3)) c = 4294967295
          · obtain ⟨m, hm, hR⟩ := q3 y
            exact ih m hm (c + 1) (by rw [lus_y hQ (Or.inl y)]; exact hR) hc1
          · obtain ⟨q5, q6⟩ := q4 y
            have hl2 := (hl.resolve_left y).1
            have b1 := hus c hc
            have b2 := hus _ (Nat.lt_trans hl2 hc)
            rcases Nat.lt_or_ge (F1 (p + 3) c) (F1 (p + 3) (lus (lq L E (bts s) (bts up) g w t) (F1 (p + 3)) c)) with z | z
            · obtain ⟨m, hm, hR⟩ := q6 (by rw [b_lt b1 b2]; exact z)
              exact ih m hm (c + 1) (by rw [lus_y hQ (Or.inr z)]; exact hR) hc1
            · obtain ⟨m, hm, hR⟩ := q5 (by rw [b_le b2 b1]; exact z)
              exact ih m hm (c + 1) (by rw [lus_n (fun _ => ⟨y, z⟩)]; exact hR) hc1
        · cases e1
          obtain ⟨m, hm, hR⟩ := q1 rfl
          exact ih m hm (c + 1) (by rw [lus_n (fun z => absurd z.2 e2)]; exact hR) hc1
  exact lp m 0 hR (Nat.zero_le _)
theorem s_mleast (hN : nt_ok nn L E) (hg : g < nn) {w t : Nat} (hw : w < nn) (ht : t < 2) {F : fx_F} (hI : mgi F nn L E st u) (hr : mrow nn L E st u g (fun x => F 193 (20 * g + x))) (hus : ∀ c, c < 2 * L → F 197 c < 2147483648) (h : Cl k_M_leastUsed [(2, 175), (0, g), (0, w), (0, t)] F v F') : F' = F ∧ v = (0, lus (lq L E st u g w t) (F 197) (2 * L)) := by
  obtain ⟨n, h⟩ := c_M_leastUsed h
  obtain ⟨m, hm2, hR⟩ := q_M_leastUsed_0 h
  have hL := hN.2.1
  have hn := hN.1
  have lp : ∀ (n k : Nat), Rn n k_M_leastUsed 6 [(2, 175), (0, g), (0, w), (0, t), (0, lus (lq L E st u g w t) (F 197) k), (0, k)] [] F v F' → k ≤ 2 * L → F' = F ∧ v = (0, lus (lq L E st u g w t) (F 197) (2 * L)) := by
    intro n
    induction n using Nat.strongRecOn with
    | ind n ih =>
      intro k h hk
      have q := q_M_leastUsed_6 h
      rw [hI.1.2.2.1, b_mul (show 2 * L < 4294967296 by clear q; omega)] at q
      rcases Nat.lt_or_ge k (2 * L) with hlt | hge
      · replace q := q.2 (by rw [b_lt (by clear q; omega) (by clear q; omega)]; exact hlt)
        rw [mFr hI.1 hL hlt, b_add (show k + 1 < 4294967296 by clear q; omega)] at q
        have hk1 : k + 1 ≤ 2 * L := hlt
        by_cases e : E k = w
        · obtain ⟨n1, F1, c1, q1, q2⟩ := q.2 e
          clear q
          obtain ⟨a1, a2⟩ := s_isNext hN hg hlt ht hI hr c1
          subst a1
          have hl := lus_q (Q := lq L E st u g w t) (us := F1 197) k
          rcases a2 with ⟨e1, e2⟩ | ⟨e1, e2⟩
          · cases e1
            have hQ : lq L E st u g w t k := ⟨e, e2⟩
            obtain ⟨q3, q4⟩ := q1 (by decide)
            by_cases y : lus (lq L E st u g w t) (F1 197) k = 4294967295
            · obtain ⟨m, hm, hR⟩ := q3 (by rw [y, b_neg (by decide)]; decide)
              exact ih m hm (k + 1) (by rw [lus_y hQ (Or.inl y)]; exact hR) hk1
            · have hl2 := (hl.resolve_left y).1
              have hl3 : lus (lq L E st u g w t) (F1 197) k < 2147483648 := by clear q1 q2 q3 q4; omega
              obtain ⟨q5, q6⟩ := q4 (by rw [b_pos (Nat.lt_trans hl3 (by decide))]; exact hl3)
              have b1 := hus k hlt
              have b2 := hus _ (Nat.lt_trans hl2 hlt)
              rcases Nat.lt_or_ge (F1 197 k) (F1 197 (lus (lq L E st u g w t) (F1 197) k)) with z | z
              · obtain ⟨m, hm, hR⟩ := q6 (by rw [b_lt b1 b2]; exact z)
                exact ih m hm (k + 1) (by rw [lus_y hQ (Or.inr z)]; exact hR) hk1
              · obtain ⟨m, hm, hR⟩ := q5 (by rw [b_le b2 b1]; exact z)
                exact ih m hm (k + 1) (by rw [lus_n (fun _ => ⟨y, z⟩)]; exact hR) hk1
          · cases e1
            obtain ⟨m, hm, hR⟩ := q2 rfl
            exact ih m hm (k + 1) (by rw [lus_n (fun z => absurd z.2 e2)]; exact hR) hk1
        · obtain ⟨m, hm, hR⟩ := q.1 e
          clear q
          exact ih m hm (k + 1) (by rw [lus_n (fun z => absurd z.1 e)]; exact hR) hk1
      · obtain ⟨x1, x2⟩ := q.1 (by rw [b_le (by clear q; omega) (by clear q; omega)]; exact hge)
        clear q
        have : k = 2 * L := by omega
        subst this
        exact ⟨x2, x1⟩
  exact lp m 0 hR (Nat.zero_le _)
end LEAST
end
section
/-! The table -/
section TABLE
variable {nn L s p g up : Nat} {E : Nat → Nat} {st u : Nat → Bool} {v : fx_V} {F' : fx_F}
/-- the entry of place x -/
noncomputable def tst (L : Nat) (E : Nat → Nat) (st u : Nat → Bool) (us : Nat → Nat) (g x : Nat) : Nat := lus (lq L E st u g (x / 2) (x % 2)) us (2 * L)
def bmp (us : Nat → Nat) (e : Nat) : Nat → Nat := fun c => if c = e then us c + 1 else us c
/-- how often used, after x places of goal g -/
noncomputable def tpl (L : Nat) (E : Nat → Nat) (st u : Nat → Bool) (us : Nat → Nat) (g : Nat) : Nat → Nat → Nat
  | 0 => us
  | x + 1 => bmp (tpl L E st u us g x) (tst L E st u (tpl L E st u us g x) g x)
/-- how often used, after g goals -/
noncomputable def tgo (nn L : Nat) (E : Nat → Nat) (st u : Nat → Bool) : Nat → Nat → Nat
  | 0 => fun _ => 0
  | g + 1 => tpl L E st u (tgo nn L E st u g) g (2 * nn)
/-- the entry -/
noncomputable def ent (nn L : Nat) (E : Nat → Nat) (st u : Nat → Bool) (g x : Nat) : Nat := tst L E st u (tpl L E st u (tgo nn L E st u g) g x) g x
theorem tpl_le {us : Nat → Nat} {c : Nat} : ∀ x, tpl L E st u us g x c ≤ us c + x
  | 0 => Nat.le_refl _
  | x + 1 => by
    have : tpl L E st u us g x c ≤ us c + x := tpl_le x
    show (if c = _ then tpl L E st u us g x c + 1 else tpl L E st u us g x c) ≤ _
    split <;> omega
theorem tgo_le {c : Nat} : ∀ g, tgo nn L E st u g c ≤ g * (2 * nn)
  | 0 => by show 0 ≤ _; omega
  | g + 1 => by
    have : tgo nn L E st u g c ≤ g * (2 * nn) := tgo_le g
    have := tpl_le (L := L) (E := E) (st := st) (u := u) (g := g) (us := tgo nn L E st u g) (c := c) (2 * nn)
    show tpl L E st u (tgo nn L E st u g) g (2 * nn) c ≤ _
    rw [Nat.add_mul]
    omega
theorem tpl_200 (hn : nn ≤ 10) (hg : g < nn) {x c : Nat} (hx : x ≤ 2 * nn) : tpl L E st u (tgo nn L E st u g) g x c ≤ 220 := by
  have a := tpl_le (L := L) (E := E) (st := st) (u := u) (g := g) (us := tgo nn L E st u g) (c := c) x
  have b := tgo_le (nn := nn) (L := L) (E := E) (st := st) (u := u) (c := c) g
  have d : g * (2 * nn) ≤ 10 * 20 := Nat.mul_le_mul (by omega) (by omega)
  omega
theorem tst_goal {us : Nat → Nat} {x : Nat} (hx : x / 2 = g) : tst L E st u us g x = 4294967295 := by
  unfold tst
  have : lus (lq L E st u g (x / 2) (x % 2)) us (0 + 2 * L) = lus (lq L E st u g (x / 2) (x % 2)) us 0 := lus_gap (2 * L) (fun c _ _ hq => by
    obtain ⟨h1, d, h2, h3, h4⟩ := hq
    refine h3.2 0 (by omega) ?_
    show (2 * E c + x % 2) / 2 = g
    omega)
  rw [Nat.zero_add] at this
  rw [this]; rfl
theorem tst_q {us : Nat → Nat} {x : Nat} : tst L E st u us g x = 4294967295 ∨ (tst L E st u us g x < 2 * L ∧ lq L E st u g (x / 2) (x % 2) (tst L E st u us g x)) := lus_q _
theorem tst_congr {us us2 : Nat → Nat} {x : Nat} (hL : L ≤ 20) (h : ∀ c, c < 2 * L → us c = us2 c) : tst L E st u us g x = tst L E st u us2 g x := lus_congr (by omega) (fun _ _ => Iff.rfl) h
/-- the class's table is right -/
def ctb (F : fx_F) (nn L : Nat) (E : Nat → Nat) (p up s : Nat) : Prop := ∀ g x, g < nn → x < 2 * nn → F (p + 2) (20 * g + x) = ent nn L E (bts s) (bts up) g x
theorem rcs.keep {F F' : fx_F} (h : rcs F nn L E p up s) {S : List Nat} (ho : fxo S F F') (h0 : p ∉ S) (h1 : p + 1 ∉ S) (h5 : p + 5 ∉ S) : rcs F' nn L E p up s := by
  obtain ⟨r1, r2, r3, r4, r5⟩ := h
  refine ⟨(ho p 1 h0).trans r1, (ho p 2 h0).trans r2, by rw [ho p 3 h0]; exact r3, fun c hc => (ho _ c h5).trans (r4 c hc), fun g hg x hx => ?_⟩
  have := r5 g hg x hx
  show (F' (p + 1) (20 * g + x) ≠ 4294967295 → gd L E (bts s) (bts up) g (F' (p + 1) (20 * g + x)) x) ∧ ∀ d, gd L E (bts s) (bts up) g d x → F' (p + 1) (20 * g + x) = d
  rw [ho (p + 1) _ h1]
  exact this
theorem s_fillTable (hN : nt_ok nn L E) (hs : s < 2147483648) (hp : 24 ≤ p) {F : fx_F} (hcn : cn F nn L E) (hol : ocl F nn L E) (hr : rcs F nn L E p up s) (h : Cl k_Ro_fillTable [(2, p)] F v F') : v = (2, 0) ∧ fxo [p + 2, p + 3] F F' ∧ ctb F' nn L E p up s := by
  obtain ⟨n, h⟩ := c_Ro_fillTable h
  obtain ⟨m, hm2, hR⟩ := q_Ro_fillTable_0 h
  have hL := hN.2.1
  have hn := hN.1
  have kp : ∀ F2 : fx_F, fxo [p + 2, p + 3] F F2 → cn F2 nn L E ∧ ocl F2 nn L E ∧ rcs F2 nn L E p up s := fun F2 ho => ⟨hcn.keep ho (by simp; omega) (by simp; omega) (by simp; omega), hol.keep ho (by simp; omega) (by simp; omega), hr.keep ho (by simp) (by simp) (by simp)⟩
  let Pl : Nat → Prop := fun n => ∀ (F2 : fx_F) (g : Nat), Rn n k_Ro_fillTable 28 [(2, p), (0, g), (3, 0), (3, 0)] [] F2 v F' → g ≤ nn → fxo [p + 2, p + 3] F F2 → (∀ c, c < 2 * L → F2 (p + 3) c = tgo nn L E (bts s) (bts up) g c) → (∀ g' x, g' < g → x < 2 * nn → F2 (p + 2) (20 * g' + x) = ent nn L E (bts s) (bts up) g' x) → v = (2, 0) ∧ fxo [p + 2, p + 3] F F' ∧ ctb F' nn L E p up s
  have l41 : ∀ (N n : Nat), (∀ m, m < N → Pl m) → n < N → ∀ (F2 : fx_F) (g x : Nat), Rn n k_Ro_fillTable 41 [(2, p), (0, g), (0, x), (3, 0)] [] F2 v F' → g < nn → x ≤ 2 * nn → fxo [p + 2, p + 3] F F2 → (∀ c, c < 2 * L → F2 (p + 3) c = tpl L E (bts s) (bts up) (tgo nn L E (bts s) (bts up) g) g x c) → (∀ g' x, g' < g → x < 2 * nn → F2 (p + 2) (20 * g' + x) = ent nn L E (bts s) (bts up) g' x) → (∀ x', x' < x → F2 (p + 2) (20 * g + x') = ent nn L E (bts s) (bts up) g x') → v = (2, 0) ∧ fxo [p + 2, p + 3] F F' ∧ ctb F' nn L E p up s := by
    intro N n hP
    induction n using Nat.strongRecOn with
    | ind n ih =>
      intro hnN F2 g x h hg hx ho hu hA hB
      obtain ⟨kc, ko, kr⟩ := kp F2 ho
      have q := q_Ro_fillTable_41 h
      rw [kc.1, b_mul (show 2 * nn < 4294967296 by clear q; omega)] at q
      rcases Nat.lt_or_ge x (2 * nn) with hlt | hge
      · obtain ⟨n1, F1, c1, q1, q2⟩ := q.2 (by rw [b_lt (by clear q; omega) (by clear q; omega)]; exact hlt)
        clear q
        rw [show i_shr x 1 = x / 2 from b_shr (by clear q1 q2; omega) (by decide), b_and1] at c1
        obtain ⟨a1, a2⟩ := s_cleast hN hg hs hp (show x / 2 < nn by clear q1 q2; omega) (Nat.mod_lt _ (by decide)) kc ko kr (fun c hc => by
          have := tpl_200 (L := L) (E := E) (st := bts s) (u := bts up) hn hg (x := x) (c := c) hx
          rw [hu c hc]; clear q1 q2; omega) c1
        subst a1
        cases a2
        have e : lus (lq L E (bts s) (bts up) g (x / 2) (x % 2)) (F1 (p + 3)) (2 * L) = ent nn L E (bts s) (bts up) g x := tst_congr hL hu
        rw [e] at q1 q2
        have ei : i_add (i_mul g 20) x = 20 * g + x := by
          rw [b_mul (show g * 20 < 4294967296 by clear q1 q2; omega), b_add (show g * 20 + x < 4294967296 by clear q1 q2; omega), Nat.mul_comm]
        rw [b_add (show x + 1 < 4294967296 by clear q1 q2; omega), ei] at q1 q2
        have eq2 : ∀ x', x' < x + 1 → (fu F1 (p + 2) (20 * g + x) (ent nn L E (bts s) (bts up) g x)) (p + 2) (20 * g + x') = ent nn L E (bts s) (bts up) g x' := fun x' hx' => by
          by_cases ex : x' = x
          · subst ex; rw [fu_same]
          · rw [fu_i (by clear q1 q2; omega)]; exact hB x' (by clear q1 q2; omega)
        have eq3 : ∀ g' x', g' < g → x' < 2 * nn → (fu F1 (p + 2) (20 * g + x) (ent nn L E (bts s) (bts up) g x)) (p + 2) (20 * g' + x') = ent nn L E (bts s) (bts up) g' x' := fun g' x' hg' hx' => by
          rw [fu_i (by clear q1 q2; omega)]; exact hA g' x' hg' hx'
        have hq := tst_q (L := L) (E := E) (st := bts s) (u := bts up) (g := g) (us := tpl L E (bts s) (bts up) (tgo nn L E (bts s) (bts up) g) g x) (x := x)
        by_cases z : ent nn L E (bts s) (bts up) g x = 4294967295
        · obtain ⟨m, hm, hR⟩ := q1 z
          refine ih m hm (by omega) _ g (x + 1) hR hg hlt (ho.wr (by simp)) (fun c hc => ?_) eq3 eq2
          rw [fu_p (by omega), hu c hc]
          show _ = if c = ent nn L E (bts s) (bts up) g x then _ else _
          rw [if_neg (by rw [z]; omega)]
        · obtain ⟨m, hm, hR⟩ := q2 z
          clear q1 q2
          have hel : ent nn L E (bts s) (bts up) g x < 2 * L := (hq.resolve_left z).1
          have h2 := tpl_200 (L := L) (E := E) (st := bts s) (u := bts up) hn hg (x := x) (c := ent nn L E (bts s) (bts up) g x) hx
          rw [fu_p (show p + 3 ≠ p + 2 by omega), hu _ hel, b_add (show _ + 1 < 4294967296 by omega)] at hR
          refine ih m hm (by omega) _ g (x + 1) hR hg hlt ((ho.wr (by simp)).wr (by simp)) (fun c hc => ?_) (fun g' x' hg' hx' => by rw [fu_p (by omega)]; exact eq3 g' x' hg' hx') (fun x' hx' => by rw [fu_p (by omega)]; exact eq2 x' hx')
          show _ = if c = ent nn L E (bts s) (bts up) g x then _ else _
          by_cases ec : c = ent nn L E (bts s) (bts up) g x
          · rw [if_pos ec, ec, fu_same]
          · rw [if_neg ec, fu_i ec, fu_p (by omega), hu c hc]
      · obtain ⟨m, hm, hR⟩ := q.1 (by rw [b_le (by clear q; omega) (by clear q; omega)]; exact hge)
        clear q
        rw [b_add (show g + 1 < 4294967296 by omega)] at hR
        have : x = 2 * nn := by omega
        subst this
        refine hP m (by omega) F2 (g + 1) hR hg ho hu (fun g' x' hg' hx' => ?_)
        by_cases e : g' = g
        · subst e; exact hB x' hx'
        · exact hA g' x' (by omega) hx'
  have lP : ∀ n, Pl n := by
    intro n
    induction n using Nat.strongRecOn with
    | ind n ih =>
      intro F2 g h hg ho hu hA
      obtain ⟨kc, ko, kr⟩ := kp F2 ho
      have q := q_Ro_fillTable_28 h
      rw [kc.1] at q
      rcases Nat.lt_or_ge g nn with hlt | hge
      · obtain ⟨m, hm, hR⟩ := q.2 (by rw [b_lt (by clear q; omega) (by clear q; omega)]; exact hlt)
        exact l41 n m ih hm F2 g 0 hR hlt (Nat.zero_le _) ho hu hA (fun x' hx' => absurd hx' (Nat.not_lt_zero _))
      · obtain ⟨x1, x2⟩ := q.1 (by rw [b_le (by clear q; omega) (by clear q; omega)]; exact hge)
        clear q
        subst x2
        exact ⟨x1, ho, fun g x hg hx => hA g x (by omega) hx⟩
  have l2 : ∀ (n : Nat) (F2 : fx_F) (c : Nat), Rn n k_Ro_fillTable 2 [(2, p), (0, c), (3, 0), (3, 0)] [] F2 v F' → c ≤ 2 * L → fxo [p + 2, p + 3] F F2 → (∀ c', c' < c → F2 (p + 3) c' = 0) → v = (2, 0) ∧ fxo [p + 2, p + 3] F F' ∧ ctb F' nn L E p up s := by
    intro n
    induction n using Nat.strongRecOn with
    | ind n ih =>
      intro F2 c h hc ho hz
      obtain ⟨kc, ko, kr⟩ := kp F2 ho
      have q := q_Ro_fillTable_2 h
      rw [kc.2.1, b_mul (show 2 * L < 4294967296 by clear q; omega)] at q
      rcases Nat.lt_or_ge c (2 * L) with hlt | hge
      · obtain ⟨m, hm, hR⟩ := q.2 (by rw [b_lt (by clear q; omega) (by clear q; omega)]; exact hlt)
        clear q
        rw [b_add (show c + 1 < 4294967296 by omega)] at hR
        refine ih m hm _ (c + 1) hR hlt (ho.wr (by simp)) (fun c' hc' => ?_)
        by_cases e : c' = c
        · subst e; rw [fu_same]
        · rw [fu_i e]; exact hz c' (by omega)
      · obtain ⟨m, hm, hR⟩ := q.1 (by rw [b_le (by clear q; omega) (by clear q; omega)]; exact hge)
        clear q
        exact lP m F2 0 hR (Nat.zero_le _) ho (fun c' hc' => hz c' (by omega)) (fun g' x hg' => absurd hg' (Nat.not_lt_zero _))
  exact l2 m F 0 hR (Nat.zero_le _) fxo.rf (fun c' hc' => absurd hc' (Nat.not_lt_zero _))
/-- the reference's table is right -/
def mtb (F : fx_F) (nn L : Nat) (E : Nat → Nat) (st u : Nat → Bool) : Prop := ∀ g x, g < nn → x < 2 * nn → F 196 (20 * g + x) = ent nn L E st u g x
theorem s_mlayTable (hN : nt_ok nn L E) {F : fx_F} (hI : mgi F nn L E st u) (h : Cl k_M_layTable [(2, 175)] F v F') : v = (2, 0) ∧ fxo [193, 196, 197] F F' ∧ mtb F' nn L E st u ∧ ∀ g, g < nn → mrow nn L E st u g (fun x => F' 193 (20 * g + x)) := by
  obtain ⟨n, h⟩ := c_M_layTable h
  obtain ⟨F0, c0, m, hm2, hR⟩ := q_M_layTable_0 h
  have hL := hN.2.1
  have hn := hN.1
  obtain ⟨-, ho0, hrow⟩ := s_layGoals hN hI c0
  have kp : ∀ F2 : fx_F, fxo [196, 197] F0 F2 → mgi F2 nn L E st u ∧ ∀ g, g < nn → mrow nn L E st u g (fun x => F2 193 (20 * g + x)) := fun F2 ho => ⟨(hI.keep ho0 (by decide) (by decide) (by decide) (by decide) (by decide)).keep ho (by decide) (by decide) (by decide) (by decide) (by decide), fun g hg x hx => by
    have := hrow g hg x hx
    show F2 193 (20 * g + x) ≤ 100000 ∧ (F2 193 (20 * g + x) < 100000 → gd L E st u g (F2 193 (20 * g + x)) x) ∧ ∀ d, gd L E st u g d x → F2 193 (20 * g + x) = d
    rw [ho 193 _ (by decide)]
    exact this⟩
  let Pl : Nat → Prop := fun n => ∀ (F2 : fx_F) (g : Nat), Rn n k_M_layTable 27 [(2, 175), (0, g), (3, 0), (3, 0), (3, 0)] [] F2 v F' → g ≤ nn → fxo [196, 197] F0 F2 → (∀ c, c < 2 * L → F2 197 c = tgo nn L E st u g c) → (∀ g' x, g' < g → x < 2 * nn → F2 196 (20 * g' + x) = ent nn L E st u g' x) → v = (2, 0) ∧ fxo [196, 197] F0 F' ∧ mtb F' nn L E st u
  have l47 : ∀ (N n : Nat), (∀ m, m < N → Pl m) → n < N → ∀ (F2 : fx_F) (g w t : Nat), (Rn n k_M_layTable 47 [(2, 175), (0, g), (0, w), (0, t), (3, 0)] [] F2 v F' ∧ w < nn ∨ Rn n k_M_layTable 37 [(2, 175), (0, g), (0, w), (3, 0), (3, 0)] [] F2 v F' ∧ t = 0 ∧ w ≤ nn) → g < nn → t ≤ 2 → fxo [196, 197] F0 F2 → (∀ c, c < 2 * L → F2 197 c = tpl L E st u (tgo nn L E st u g) g (2 * w + t) c) → (∀ g' x, g' < g → x < 2 * nn → F2 196 (20 * g' + x) = ent nn L E st u g' x) → (∀ x', x' < 2 * w + t → F2 196 (20 * g + x') = ent nn L E st u g x') → v = (2, 0) ∧ fxo [196, 197] F0 F' ∧ mtb F' nn L E st u := by
    intro N n hP
    induction n using Nat.strongRecOn with
    | ind n ih =>
      intro hnN F2 g w t h hg ht ho hu hA hB
      obtain ⟨ki, kr⟩ := kp F2 ho
      rcases h with ⟨h, hw⟩ | ⟨h, ht0, hw⟩
      · have q := q_M_layTable_47 h
        by_cases ht2 : t = 2
        · obtain ⟨m, hm, hR⟩ := q.1 (by rw [b_le (by decide) (by clear q; omega)]; clear q; omega)
          clear q
          rw [b_add (show w + 1 < 4294967296 by omega)] at hR
          have e : 2 * w + t = 2 * (w + 1) + 0 := by omega
          rw [e] at hu hB
          exact ih m hm (by omega) F2 g (w + 1) 0 (Or.inr ⟨hR, rfl, hw⟩) hg (by omega) ho hu hA hB
        · replace q := q.2 (by rw [b_lt (by clear q; omega) (by decide)]; clear q; omega)
          have ei : i_add (i_add (i_mul 20 g) (i_mul 2 w)) t = 20 * g + (2 * w + t) := by
            rw [b_mul (show 20 * g < 4294967296 by clear q; omega), b_mul (show 2 * w < 4294967296 by clear q; omega), b_add (show 20 * g + 2 * w < 4294967296 by clear q; omega), b_add (show 20 * g + 2 * w + t < 4294967296 by clear q; omega), Nat.add_assoc]
          rw [ei, b_add (show t + 1 < 4294967296 by clear q; omega)] at q
          have ht1 : t + 1 ≤ 2 := by clear q; omega
          have hx : 2 * w + t < 2 * nn := by clear q; omega
          have ex2 : (2 * w + t) / 2 = w := by clear q; omega
          have em2 : (2 * w + t) % 2 = t := by clear q; omega
          have hq := tst_q (L := L) (E := E) (st := st) (u := u) (g := g) (us := tpl L E st u (tgo nn L E st u g) g (2 * w + t)) (x := 2 * w + t)
          have fin : ∀ (F3 : fx_F) (m : Nat), m < n → Rn m k_M_layTable 47 [(2, 175), (0, g), (0, w), (0, t + 1), (3, 0)] [] F3 v F' → fxo [196, 197] F0 F3 → (∀ x', F3 196 x' = if x' = 20 * g + (2 * w + t) then ent nn L E st u g (2 * w + t) else F2 196 x') → (∀ c, c < 2 * L → F3 197 c = if c = ent nn L E st u g (2 * w + t) then F2 197 c + 1 else F2 197 c) → v = (2, 0) ∧ fxo [196, 197] F0 F' ∧ mtb F' nn L E st u := by
            clear q
            intro F3 m hm hR ho3 h196 h197
            refine ih m hm (by omega) F3 g w (t + 1) (Or.inl ⟨hR, hw⟩) hg ht1 ho3 (fun c hc => ?_) (fun g' x' hg' hx' => ?_) (fun x' hx' => ?_)
            · rw [h197 c hc, hu c hc]
              rfl
            · rw [h196, if_neg (by omega)]; exact hA g' x' hg' hx'
            · rw [h196]
              by_cases e : x' = 2 * w + t
              · rw [if_pos (by omega), e]
              · rw [if_neg (by omega)]; exact hB x' (by omega)
          by_cases hwg : w = g
          · have he : ent nn L E st u g (2 * w + t) = 4294967295 := tst_goal (by clear q; omega)
            obtain ⟨m, hm, hR⟩ := (q.2 hwg).1 (by rw [b_neg (by decide)]; decide)
            clear q
            refine fin _ m hm hR (ho.wr (by decide)) (fun x' => ?_) (fun c hc => ?_)
            · rw [he, fu_if]
              by_cases e : x' = 20 * g + (2 * w + t)
              · rw [if_pos ⟨rfl, e⟩, if_pos e]
              · rw [if_neg (fun z => e z.2), if_neg e]
            · rw [he, fu_p (by decide), if_neg (by omega)]
          · obtain ⟨n1, F1, c1, q1, q2⟩ := q.1 hwg
            clear q
            obtain ⟨a1, a2⟩ := s_mleast hN hg hw (show t < 2 by clear q1 q2; omega) ki (kr g hg) (fun c hc => by
              have := tpl_200 (L := L) (E := E) (st := st) (u := u) hn hg (x := 2 * w + t) (c := c) (Nat.le_of_lt hx)
              rw [hu c hc]; clear q1 q2; omega) c1
            subst a1
            cases a2
            have e : lus (lq L E st u g w t) (F1 197) (2 * L) = ent nn L E st u g (2 * w + t) := by
              have := tst_congr (E := E) (st := st) (u := u) (g := g) (x := 2 * w + t) hL hu
              unfold tst at this
              rw [ex2, em2] at this
              unfold ent tst
              rw [ex2, em2]
              exact this
            rw [e] at q1 q2
            by_cases z : ent nn L E st u g (2 * w + t) = 4294967295
            · obtain ⟨m, hm, hR⟩ := q1 (by rw [z, b_neg (by decide)]; decide)
              clear q1 q2
              refine fin _ m hm hR (ho.wr (by decide)) (fun x' => ?_) (fun c hc => ?_)
              · rw [fu_if]
                by_cases e : x' = 20 * g + (2 * w + t)
                · rw [if_pos ⟨rfl, e⟩, if_pos e]
                · rw [if_neg (fun z => e z.2), if_neg e]
              · rw [z, fu_p (by decide), if_neg (by omega)]
            · have hel : ent nn L E st u g (2 * w + t) < 2 * L := (hq.resolve_left z).1
              obtain ⟨m, hm, hR⟩ := q2 (by rw [b_pos (by clear q1 q2; omega)]; clear q1 q2; omega)
              clear q1 q2
              have h2 := tpl_200 (L := L) (E := E) (st := st) (u := u) hn hg (x := 2 * w + t) (c := ent nn L E st u g (2 * w + t)) (Nat.le_of_lt hx)
              have h3 := hu _ hel
              rw [b_add (show F1 197 _ + 1 < 4294967296 by omega)] at hR
              refine fin _ m hm hR ((ho.wr (by decide)).wr (by decide)) (fun x' => ?_) (fun c hc => ?_)
              · rw [fu_p (by decide), fu_if]
                by_cases e : x' = 20 * g + (2 * w + t)
                · rw [if_pos ⟨rfl, e⟩, if_pos e]
                · rw [if_neg (fun z => e z.2), if_neg e]
              · by_cases ec : c = ent nn L E st u g (2 * w + t)
                · rw [if_pos ec, ec, fu_same]
                · rw [if_neg ec, fu_i ec, fu_p (by decide)]
      · subst ht0
        have q := q_M_layTable_37 h
        rw [ki.1.2.1] at q
        rcases Nat.lt_or_ge w nn with hlt | hge
        · obtain ⟨m, hm, hR⟩ := q.2 (by rw [b_lt (by clear q; omega) (by clear q; omega)]; exact hlt)
          clear q
          exact ih m hm (by omega) F2 g w 0 (Or.inl ⟨hR, hlt⟩) hg (by omega) ho hu hA hB
        · obtain ⟨m, hm, hR⟩ := q.1 (by rw [b_le (by clear q; omega) (by clear q; omega)]; exact hge)
          clear q
          rw [b_add (show g + 1 < 4294967296 by omega)] at hR
          have : 2 * w + 0 = 2 * nn := by omega
          rw [this] at hu hB
          refine hP m (by omega) F2 (g + 1) hR hg ho hu (fun g' x' hg' hx' => ?_)
          by_cases e : g' = g
          · subst e; exact hB x' hx'
          · exact hA g' x' (by omega) hx'
  have lP : ∀ n, Pl n := by
    intro n
    induction n using Nat.strongRecOn with
    | ind n ih =>
      intro F2 g h hg ho hu hA
      obtain ⟨ki, kr⟩ := kp F2 ho
      have q := q_M_layTable_27 h
      rw [ki.1.2.1] at q
      rcases Nat.lt_or_ge g nn with hlt | hge
      · obtain ⟨m, hm, hR⟩ := q.2 (by rw [b_lt (by clear q; omega) (by clear q; omega)]; exact hlt)
        exact l47 n m ih hm F2 g 0 0 (Or.inr ⟨hR, rfl, Nat.zero_le _⟩) hlt (by decide) ho hu hA (fun x' hx' => absurd hx' (Nat.not_lt_zero _))
      · obtain ⟨x1, x2⟩ := q.1 (by rw [b_le (by clear q; omega) (by clear q; omega)]; exact hge)
        clear q
        subst x2
        exact ⟨x1, ho, fun g x hg hx => hA g x (by omega) hx⟩
  have l6 : ∀ (n : Nat) (F2 : fx_F) (c : Nat), Rn n k_M_layTable 6 [(2, 175), (0, c), (3, 0), (3, 0), (3, 0)] [] F2 v F' → c ≤ 40 → fxo [196, 197] F0 F2 → (∀ c', c' < c → F2 197 c' = 0) → v = (2, 0) ∧ fxo [196, 197] F0 F' ∧ mtb F' nn L E st u := by
    intro n
    induction n using Nat.strongRecOn with
    | ind n ih =>
      intro F2 c h hc ho hz
      have q := q_M_layTable_6 h
      rcases Nat.lt_or_ge c 40 with hlt | hge
      · obtain ⟨m, hm, hR⟩ := q.2 (by rw [b_lt (by clear q; omega) (by decide)]; exact hlt)
        clear q
        rw [b_add (show c + 1 < 4294967296 by omega)] at hR
        refine ih m hm _ (c + 1) hR hlt (ho.wr (by decide)) (fun c' hc' => ?_)
        by_cases e : c' = c
        · subst e; rw [fu_same]
        · rw [fu_i e]; exact hz c' (by omega)
      · obtain ⟨m, hm, hR⟩ := q.1 (by rw [b_le (by decide) (by clear q; omega)]; exact hge)
        clear q
        exact lP m F2 0 hR (Nat.zero_le _) ho (fun c' hc' => hz c' (by omega)) (fun g' x hg' => absurd hg' (Nat.not_lt_zero _))
  obtain ⟨z1, z2, z3⟩ := l6 m F0 0 hR (Nat.zero_le _) fxo.rf (fun c' hc' => absurd hc' (Nat.not_lt_zero _))
  exact ⟨z1, (ho0.mono (by decide)).tr (z2.mono (by decide)), z3, (kp F' z2).2⟩
end TABLE
end
section
/-! Paths by the table, and loads -/
section LOADS
variable {nn L s p g up : Nat} {E : Nat → Nat} {st u : Nat → Bool} {v : fx_V} {F' : fx_F}
/-- the path's channel number i from w to g -/
noncomputable def pa (nn L : Nat) (E : Nat → Nat) (st u : Nat → Bool) (g w : Nat) : Nat → Nat
  | 0 => ent nn L E st u g (2 * w)
  | i + 1 => if pa nn L E st u g w i = 4294967295 then 4294967295 else ent nn L E st u g (2 * E (nf (pa nn L E st u g w i)) + bh u (pa nn L E st u g w i))
theorem ent_q {x : Nat} : ent nn L E st u g x = 4294967295 ∨ (ent nn L E st u g x < 2 * L ∧ x % 2 ≤ bh u (ent nn L E st u g x) ∧ ∃ d, gd L E st u g (d + 1) x ∧ gd L E st u g d (2 * E (nf (ent nn L E st u g x)) + bh u (ent nn L E st u g x))) := by
  rcases tst_q (L := L) (E := E) (st := st) (u := u) (g := g) (us := tpl L E st u (tgo nn L E st u g) g x) (x := x) with h | ⟨h, h1, d, h2, h3, h4⟩
  · exact Or.inl h
  · refine Or.inr ⟨h, ?_, d, ?_, h4⟩
    · have := h2.2.2.2.1
      rw [h1] at this
      replace this : (2 * (x / 2) + x % 2) % 2 ≤ bh u (ent nn L E st u g x) := this
      omega
    · rw [h1] at h3
      rw [show x = 2 * (x / 2) + x % 2 by omega]
      exact h3
theorem pa_s {w i : Nat} : pa nn L E st u g w (i + 1) = if pa nn L E st u g w i = 4294967295 then 4294967295 else ent nn L E st u g (2 * E (nf (pa nn L E st u g w i)) + bh u (pa nn L E st u g w i)) := rfl
theorem pa_q {w : Nat} : ∀ i, pa nn L E st u g w i = 4294967295 ∨ (pa nn L E st u g w i < 2 * L ∧ ∃ d D, gd L E st u g d (2 * E (nf (pa nn L E st u g w i)) + bh u (pa nn L E st u g w i)) ∧ gd L E st u g D (2 * w) ∧ d + i + 1 = D)
  | 0 => by
    rcases ent_q (nn := nn) (L := L) (E := E) (st := st) (u := u) (g := g) (x := 2 * w) with h | ⟨h, _, d, h1, h2⟩
    · exact Or.inl h
    · exact Or.inr ⟨h, d, d + 1, h2, h1, rfl⟩
  | i + 1 => by
    have ih : pa nn L E st u g w i = 4294967295 ∨ (pa nn L E st u g w i < 2 * L ∧ ∃ d D, gd L E st u g d (2 * E (nf (pa nn L E st u g w i)) + bh u (pa nn L E st u g w i)) ∧ gd L E st u g D (2 * w) ∧ d + i + 1 = D) := pa_q i
    by_cases z : pa nn L E st u g w i = 4294967295
    · rw [pa_s, if_pos z]; exact Or.inl rfl
    · rw [pa_s, if_neg z]
      obtain ⟨h1, d, D, h2, h3, h4⟩ := ih.resolve_left z
      rcases ent_q (nn := nn) (L := L) (E := E) (st := st) (u := u) (g := g) (x := 2 * E (nf (pa nn L E st u g w i)) + bh u (pa nn L E st u g w i)) with h | ⟨h, _, e, k1, k2⟩
      · exact Or.inl h
      · have := gd_fun h2 k1
        exact Or.inr ⟨h, e, D, k2, h3, by omega⟩
theorem pa_20 (hN : nt_ok nn L E) (hg : g < nn) {w i : Nat} (hi : 19 ≤ i) : pa nn L E st u g w i = 4294967295 := by
  rcases pa_q (nn := nn) (L := L) (E := E) (st := st) (u := u) (g := g) (w := w) i with h | ⟨_, d, D, h1, h2, h3⟩
  · exact h
  · have := gd_lt hN hg h2
    have := hN.1
    omega
theorem pa_end {w i : Nat} (h : pa nn L E st u g w i = 4294967295) : ∀ j, pa nn L E st u g w (i + j) = 4294967295
  | 0 => h
  | j + 1 => by
    show pa nn L E st u g w (i + j + 1) = _
    rw [pa_s, if_pos (pa_end h j)]
/-- used along the first k channels of a path -/
noncomputable def lpa (nn L : Nat) (E : Nat → Nat) (st u : Nat → Bool) (us : Nat → Nat) (g w : Nat) : Nat → Nat → Nat
  | 0 => us
  | k + 1 => bmp (lpa nn L E st u us g w k) (pa nn L E st u g w k)
noncomputable def lto (nn L : Nat) (E : Nat → Nat) (st u : Nat → Bool) (us : Nat → Nat) (w : Nat) : Nat → Nat → Nat
  | 0 => us
  | g + 1 => lpa nn L E st u (lto nn L E st u us w g) g w 20
noncomputable def lfr (nn L : Nat) (E : Nat → Nat) (st u : Nat → Bool) : Nat → Nat → Nat
  | 0 => fun _ => 0
  | w + 1 => lto nn L E st u (lfr nn L E st u w) w nn
/-- the loads -/
noncomputable def lod (nn L : Nat) (E : Nat → Nat) (st u : Nat → Bool) : Nat → Nat := lfr nn L E st u nn
theorem lpa_le {us : Nat → Nat} {w c : Nat} : ∀ k, lpa nn L E st u us g w k c ≤ us c + k
  | 0 => Nat.le_refl _
  | k + 1 => by
    have : lpa nn L E st u us g w k c ≤ us c + k := lpa_le k
    show (if c = _ then lpa nn L E st u us g w k c + 1 else lpa nn L E st u us g w k c) ≤ _
    split <;> omega
theorem lpa_stop {us : Nat → Nat} {w c i : Nat} (hc : c < 2 * L) (hL : L ≤ 20) (h : pa nn L E st u g w i = 4294967295) : ∀ j, lpa nn L E st u us g w (i + j) c = lpa nn L E st u us g w i c
  | 0 => rfl
  | j + 1 => by
    have := pa_end h j
    show (if c = pa nn L E st u g w (i + j) then lpa nn L E st u us g w (i + j) c + 1 else lpa nn L E st u us g w (i + j) c) = _
    rw [if_neg (by omega)]
    exact lpa_stop hc hL h j
theorem lto_le {us : Nat → Nat} {w c : Nat} : ∀ k, lto nn L E st u us w k c ≤ us c + 20 * k
  | 0 => Nat.le_refl _
  | k + 1 => by
    have h1 : lto nn L E st u us w k c ≤ us c + 20 * k := lto_le k
    have h2 := lpa_le (nn := nn) (L := L) (E := E) (st := st) (u := u) (g := k) (us := lto nn L E st u us w k) (w := w) (c := c) 20
    show lpa nn L E st u (lto nn L E st u us w k) k w 20 c ≤ _
    omega
theorem lfr_le {c : Nat} : ∀ k, lfr nn L E st u k c ≤ k * (20 * nn)
  | 0 => by show 0 ≤ _; omega
  | k + 1 => by
    have h1 : lfr nn L E st u k c ≤ k * (20 * nn) := lfr_le k
    have h2 := lto_le (nn := nn) (L := L) (E := E) (st := st) (u := u) (us := lfr nn L E st u k) (w := k) (c := c) nn
    show lto nn L E st u (lfr nn L E st u k) k nn c ≤ _
    rw [Nat.add_mul]
    omega
theorem lpa_b (hn : nn ≤ 10) {w k c : Nat} (hw : w < nn) (hg : g ≤ nn) (hk : k ≤ 20) : lpa nn L E st u (lto nn L E st u (lfr nn L E st u w) w g) g w k c ≤ 3000 := by
  have h1 := lpa_le (nn := nn) (L := L) (E := E) (st := st) (u := u) (g := g) (us := lto nn L E st u (lfr nn L E st u w) w g) (w := w) (c := c) k
  have h2 := lto_le (nn := nn) (L := L) (E := E) (st := st) (u := u) (us := lfr nn L E st u w) (w := w) (c := c) g
  have h3 := lfr_le (nn := nn) (L := L) (E := E) (st := st) (u := u) (c := c) w
  have h4 : w * (20 * nn) ≤ 10 * 200 := Nat.mul_le_mul (by omega) (by omega)
  omega
theorem ctb.keep {F F' : fx_F} (h : ctb F nn L E p up s) {S : List Nat} (ho : fxo S F F') (h2 : p + 2 ∉ S) : ctb F' nn L E p up s := fun g x hg hx => (ho (p + 2) _ h2).trans (h g x hg hx)
theorem s_countPath (hN : nt_ok nn L E) (hp : 24 ≤ p) {w : Nat} (hg : g < nn) (hw : w < nn) {us : Nat → Nat} (hus : ∀ c, us c ≤ 2900) {F : fx_F} (hcn : cn F nn L E) (hr : rcs F nn L E p up s) (ht : ctb F nn L E p up s) (hu : ∀ c, c < 2 * L → F (p + 4) c = us c) (h : Cl k_Ro_countPath [(2, p), (0, w), (0, g)] F v F') : v = (2, 0) ∧ fxo [p + 4] F F' ∧ ∀ c, c < 2 * L → F' (p + 4) c = lpa nn L E (bts s) (bts up) us g w 20 c := by
  obtain ⟨n, h⟩ := c_Ro_countPath h
  obtain ⟨m, hm2, hR⟩ := q_Ro_countPath_0 h
  have hL := hN.2.1
  have hn := hN.1
  have e0 : i_add (i_add (i_mul g 20) (i_mul 2 w)) 0 = 20 * g + 2 * w := by
    rw [b_mul (show g * 20 < 4294967296 by omega), b_mul (show 2 * w < 4294967296 by omega), b_add (show g * 20 + 2 * w < 4294967296 by omega), b_add (show g * 20 + 2 * w + 0 < 4294967296 by omega)]; omega
  rw [e0, ht g (2 * w) hg (by omega)] at hR
  have lp : ∀ (n : Nat) (F2 : fx_F) (i : Nat), Rn n k_Ro_countPath 11 [(2, p), (3, 0), (0, g), (0, pa nn L E (bts s) (bts up) g w i), (0, i)] [] F2 v F' → i ≤ 20 → fxo [p + 4] F F2 → (∀ c, c < 2 * L → F2 (p + 4) c = lpa nn L E (bts s) (bts up) us g w i c) → v = (2, 0) ∧ fxo [p + 4] F F' ∧ ∀ c, c < 2 * L → F' (p + 4) c = lpa nn L E (bts s) (bts up) us g w 20 c := by
    intro n
    induction n using Nat.strongRecOn with
    | ind n ih =>
      intro F2 i h hi ho hu2
      have q := q_Ro_countPath_11 h
      have hq := pa_q (nn := nn) (L := L) (E := E) (st := bts s) (u := bts up) (g := g) (w := w) i
      rcases Nat.lt_or_ge i 20 with hlt | hge
      · replace q := q.2 (by rw [b_lt (by clear q; omega) (by decide)]; exact hlt)
        by_cases z : pa nn L E (bts s) (bts up) g w i = 4294967295
        · obtain ⟨x1, x2⟩ := q.1 z
          clear q
          subst x2
          refine ⟨x1, ho, fun c hc => ?_⟩
          have := lpa_stop (us := us) hc hL z (20 - i)
          rw [show i + (20 - i) = 20 by omega] at this
          rw [this]; exact hu2 c hc
        · obtain ⟨m, hm, hR⟩ := q.2 z
          clear q
          have hpl : pa nn L E (bts s) (bts up) g w i < 2 * L := (hq.resolve_left z).1
          have hb := bh_le (bts up) (pa nn L E (bts s) (bts up) g w i)
          have hE := (hN.2.2 _ (nf_lt hpl)).1
          have hcn2 := hcn.keep ho (by simp <;> omega) (by simp <;> omega) (by simp <;> omega)
          have hr2 := hr.keep ho (by simp) (by simp) (by simp)
          have hle := lpa_le (nn := nn) (L := L) (E := E) (st := bts s) (u := bts up) (g := g) (us := us) (w := w) (c := pa nn L E (bts s) (bts up) g w i) i
          have hus1 := hus (pa nn L E (bts s) (bts up) g w i)
          have ei : i_add (i_mul g 20) (i_add (i_mul 2 (E (nf (pa nn L E (bts s) (bts up) g w i)))) (bh (bts up) (pa nn L E (bts s) (bts up) g w i))) = 20 * g + (2 * E (nf (pa nn L E (bts s) (bts up) g w i)) + bh (bts up) (pa nn L E (bts s) (bts up) g w i)) := by
            rw [b_mul (show g * 20 < 4294967296 by omega), b_mul (show 2 * E (nf (pa nn L E (bts s) (bts up) g w i)) < 4294967296 by omega), b_add (show 2 * E (nf (pa nn L E (bts s) (bts up) g w i)) + bh (bts up) (pa nn L E (bts s) (bts up) g w i) < 4294967296 by omega), b_add (show g * 20 + (2 * E (nf (pa nn L E (bts s) (bts up) g w i)) + bh (bts up) (pa nn L E (bts s) (bts up) g w i)) < 4294967296 by omega)]; omega
          rw [fu_p (show 5 ≠ p + 4 by omega), fu_p (show p + 5 ≠ p + 4 by omega), fu_p (show p + 2 ≠ p + 4 by omega), (hcn2.2.2 _ hpl).2, hr2.2.2.2.1 _ hpl, ei, ho (p + 2) _ (by simp), ht g _ hg (by omega), hu2 _ hpl, b_add (show i + 1 < 4294967296 by omega), b_add (show _ + 1 < 4294967296 by omega), show ent nn L E (bts s) (bts up) g (2 * E (nf (pa nn L E (bts s) (bts up) g w i)) + bh (bts up) (pa nn L E (bts s) (bts up) g w i)) = pa nn L E (bts s) (bts up) g w (i + 1) by rw [pa_s, if_neg z]] at hR
          refine ih m hm _ (i + 1) hR hlt (ho.wr (by simp)) (fun c hc => ?_)
          show _ = if c = pa nn L E (bts s) (bts up) g w i then _ else _
          by_cases ec : c = pa nn L E (bts s) (bts up) g w i
          · rw [if_pos ec, ← ec, fu_same]
          · rw [if_neg ec, fu_i ec]; exact hu2 c hc
      · obtain ⟨x1, x2⟩ := q.1 (by rw [b_le (by decide) (by clear q; omega)]; exact hge)
        clear q
        subst x2
        have : i = 20 := by omega
        subst this
        exact ⟨x1, ho, hu2⟩
  exact lp m F 0 hR (Nat.zero_le _) fxo.rf hu
theorem s_countLoads (hN : nt_ok nn L E) (hp : 24 ≤ p) {F : fx_F} (hcn : cn F nn L E) (hr : rcs F nn L E p up s) (ht : ctb F nn L E p up s) (h : Cl k_Ro_countLoads [(2, p)] F v F') : v = (2, 0) ∧ fxo [p + 4] F F' ∧ ∀ c, c < 2 * L → F' (p + 4) c = lod nn L E (bts s) (bts up) c := by
  obtain ⟨n, h⟩ := c_Ro_countLoads h
  obtain ⟨m, hm2, hR⟩ := q_Ro_countLoads_0 h
  have hL := hN.2.1
  have hn := hN.1
  have kp : ∀ F2 : fx_F, fxo [p + 4] F F2 → cn F2 nn L E ∧ rcs F2 nn L E p up s ∧ ctb F2 nn L E p up s := fun F2 ho => ⟨hcn.keep ho (by simp <;> omega) (by simp <;> omega) (by simp <;> omega), hr.keep ho (by simp) (by simp) (by simp), ht.keep ho (by simp)⟩
  let Pl : Nat → Prop := fun n => ∀ (F2 : fx_F) (w : Nat), Rn n k_Ro_countLoads 28 [(2, p), (0, w), (3, 0)] [] F2 v F' → w ≤ nn → fxo [p + 4] F F2 → (∀ c, c < 2 * L → F2 (p + 4) c = lfr nn L E (bts s) (bts up) w c) → v = (2, 0) ∧ fxo [p + 4] F F' ∧ ∀ c, c < 2 * L → F' (p + 4) c = lod nn L E (bts s) (bts up) c
  have l41 : ∀ (N n : Nat), (∀ m, m < N → Pl m) → n < N → ∀ (F2 : fx_F) (w g : Nat), Rn n k_Ro_countLoads 41 [(2, p), (0, w), (0, g)] [] F2 v F' → w < nn → g ≤ nn → fxo [p + 4] F F2 → (∀ c, c < 2 * L → F2 (p + 4) c = lto nn L E (bts s) (bts up) (lfr nn L E (bts s) (bts up) w) w g c) → v = (2, 0) ∧ fxo [p + 4] F F' ∧ ∀ c, c < 2 * L → F' (p + 4) c = lod nn L E (bts s) (bts up) c := by
    intro N n hP
    induction n using Nat.strongRecOn with
    | ind n ih =>
      intro hnN F2 w g h hw hg ho hu
      obtain ⟨kc, kr, kt⟩ := kp F2 ho
      have q := q_Ro_countLoads_41 h
      rw [kc.1] at q
      rcases Nat.lt_or_ge g nn with hlt | hge
      · obtain ⟨F1, c1, m, hm, hR⟩ := q.2 (by rw [b_lt (by clear q; omega) (by clear q; omega)]; exact hlt)
        clear q
        rw [b_add (show g + 1 < 4294967296 by omega)] at hR
        obtain ⟨-, y1, y2⟩ := s_countPath hN hp hlt hw (us := lto nn L E (bts s) (bts up) (lfr nn L E (bts s) (bts up) w) w g) (fun c => by
          have h2 := lto_le (nn := nn) (L := L) (E := E) (st := bts s) (u := bts up) (us := lfr nn L E (bts s) (bts up) w) (w := w) (c := c) g
          have h3 := lfr_le (nn := nn) (L := L) (E := E) (st := bts s) (u := bts up) (c := c) w
          have h4 : w * (20 * nn) ≤ 10 * 200 := Nat.mul_le_mul (by omega) (by omega)
          omega) kc kr kt hu c1
        exact ih m hm (by omega) F1 w (g + 1) hR hw hlt (ho.tr y1) y2
      · obtain ⟨m, hm, hR⟩ := q.1 (by rw [b_le (by clear q; omega) (by clear q; omega)]; exact hge)
        clear q
        rw [b_add (show w + 1 < 4294967296 by omega)] at hR
        have : g = nn := by omega
        subst this
        exact hP m (by omega) F2 (w + 1) hR hw ho hu
  have lP : ∀ n, Pl n := by
    intro n
    induction n using Nat.strongRecOn with
    | ind n ih =>
      intro F2 w h hw ho hu
      obtain ⟨kc, kr, kt⟩ := kp F2 ho
      have q := q_Ro_countLoads_28 h
      rw [kc.1] at q
      rcases Nat.lt_or_ge w nn with hlt | hge
      · obtain ⟨m, hm, hR⟩ := q.2 (by rw [b_lt (by clear q; omega) (by clear q; omega)]; exact hlt)
        exact l41 n m ih hm F2 w 0 hR hlt (Nat.zero_le _) ho hu
      · obtain ⟨x1, x2⟩ := q.1 (by rw [b_le (by clear q; omega) (by clear q; omega)]; exact hge)
        clear q
        subst x2
        have : w = nn := by omega
        subst this
        exact ⟨x1, ho, hu⟩
  have l2 : ∀ (n : Nat) (F2 : fx_F) (c : Nat), Rn n k_Ro_countLoads 2 [(2, p), (0, c), (3, 0)] [] F2 v F' → c ≤ 2 * L → fxo [p + 4] F F2 → (∀ c', c' < c → F2 (p + 4) c' = 0) → v = (2, 0) ∧ fxo [p + 4] F F' ∧ ∀ c, c < 2 * L → F' (p + 4) c = lod nn L E (bts s) (bts up) c := by
    intro n
    induction n using Nat.strongRecOn with
    | ind n ih =>
      intro F2 c h hc ho hz
      obtain ⟨kc, kr, kt⟩ := kp F2 ho
      have q := q_Ro_countLoads_2 h
      rw [kc.2.1, b_mul (show 2 * L < 4294967296 by clear q; omega)] at q
      rcases Nat.lt_or_ge c (2 * L) with hlt | hge
      · obtain ⟨m, hm, hR⟩ := q.2 (by rw [b_lt (by clear q; omega) (by clear q; omega)]; exact hlt)
        clear q
        rw [b_add (show c + 1 < 4294967296 by omega)] at hR
        refine ih m hm _ (c + 1) hR hlt (ho.wr (by simp)) (fun c' hc' => ?_)
        by_cases e : c' = c
        · subst e; rw [fu_same]
        · rw [fu_i e]; exact hz c' (by omega)
      · obtain ⟨m, hm, hR⟩ := q.1 (by rw [b_le (by clear q; omega) (by clear q; omega)]; exact hge)
        clear q
        exact lP m F2 0 hR (Nat.zero_le _) ho (fun c' hc' => hz c' (by omega))
  exact l2 m F 0 hR (Nat.zero_le _) fxo.rf (fun c' hc' => absurd hc' (Nat.not_lt_zero _))
/-- a cache whose table is right -/
def rct (F : fx_F) (nn L : Nat) (E : Nat → Nat) (p : Nat) : Prop := F p 4 ≠ 0 → F p 3 ≠ 0 ∧ ctb F nn L E p (F p 1) (F p 2) ∧ ∀ c, c < 2 * L → F (p + 4) c = lod nn L E (bts (F p 2)) (bts (F p 1)) c
theorem rcs_rci {F : fx_F} (hu : up < 2147483648) (hs : s < 2147483648) (h : rcs F nn L E p up s) : rci F nn L E p := by
  obtain ⟨r1, r2, r3, r4, r5⟩ := h
  refine ⟨by rw [r1]; exact hu, by rw [r2]; exact hs, fun _ => ?_⟩
  rw [r1, r2]
  exact ⟨r4, r5⟩
theorem s_see2 (hN : nt_ok nn L E) (hu : up < 2147483648) (hs : s < 2147483648) (hp : 24 ≤ p) {F : fx_F} (hc : cn F nn L E) (hr : rci F nn L E p) (ht : rct F nn L E p) (h : Cl k_Ro_see [(2, p), (0, up), (0, s)] F v F') : v = (2, 0) ∧ fxo [p, p + 1, p + 5] F F' ∧ rcs F' nn L E p up s ∧ rci F' nn L E p ∧ rct F' nn L E p := by
  obtain ⟨a1, a2, a3, a4⟩ := s_see hN hu hs hp hc hr h
  refine ⟨a1, a2, a3, rcs_rci hu hs a3, ?_⟩
  rcases a4 with e | e
  · rw [e]; exact ht
  · exact fun z => absurd e z
theorem s_seeTable (hN : nt_ok nn L E) (hu : up < 2147483648) (hs : s < 2147483648) (hp : 24 ≤ p) {F : fx_F} (hc : cn F nn L E) (hol : ocl F nn L E) (hr : rci F nn L E p) (ht : rct F nn L E p) (h : Cl k_Ro_seeTable [(2, p), (0, up), (0, s)] F v F') : v = (2, 0) ∧ fxo [p, p + 1, p + 2, p + 3, p + 4, p + 5] F F' ∧ rcs F' nn L E p up s ∧ ctb F' nn L E p up s ∧ (∀ c, c < 2 * L → F' (p + 4) c = lod nn L E (bts s) (bts up) c) ∧ rci F' nn L E p ∧ rct F' nn L E p := by
  obtain ⟨n, h⟩ := c_Ro_seeTable h
  obtain ⟨F1, c1, q1, q2⟩ := q_Ro_seeTable_0 h
  obtain ⟨-, a2, a3, a4, a5⟩ := s_see2 hN hu hs hp hc hr ht c1
  have m1 : fxo [p, p + 1, p + 2, p + 3, p + 4, p + 5] F F1 := a2.mono (by simp)
  by_cases z : F1 p 4 = 0
  · obtain ⟨F2, c2, F3, c3, x1, x2⟩ := q2 z
    have hc1 := hc.keep a2 (by simp; omega) (by simp; omega) (by simp; omega)
    obtain ⟨-, b2, b3⟩ := s_fillTable hN hs hp hc1 (hol.keep a2 (by simp; omega) (by simp; omega)) a3 c2
    have hr2 := a3.keep b2 (by simp) (by simp) (by simp)
    obtain ⟨-, d2, d3⟩ := s_countLoads hN hp (hc1.keep b2 (by simp; omega) (by simp; omega) (by simp; omega)) hr2 b3 c3
    have hr3 := hr2.keep d2 (by simp) (by simp) (by simp)
    have hb3 := b3.keep d2 (by simp)
    subst x2
    have ho4 : ∀ q j, (q ≠ p ∨ j ≠ 4) → fu F3 p 4 1 q j = F3 q j := fun q j hj => by rw [fu_if, if_neg (fun z => hj.elim (fun y => y z.1) (fun y => y z.2))]
    have hr4 : rcs (fu F3 p 4 1) nn L E p up s := by
      obtain ⟨r1, r2, r3, r4, r5⟩ := hr3
      refine ⟨(ho4 p 1 (Or.inr (by decide))).trans r1, (ho4 p 2 (Or.inr (by decide))).trans r2, by rw [ho4 p 3 (Or.inr (by decide))]; exact r3, fun c hc => (ho4 _ c (Or.inl (by omega))).trans (r4 c hc), fun g hg x hx => ?_⟩
      have := r5 g hg x hx
      show (fu F3 p 4 1 (p + 1) (20 * g + x) ≠ 4294967295 → gd L E (bts s) (bts up) g (fu F3 p 4 1 (p + 1) (20 * g + x)) x) ∧ ∀ d, gd L E (bts s) (bts up) g d x → fu F3 p 4 1 (p + 1) (20 * g + x) = d
      rw [ho4 (p + 1) _ (Or.inl (by omega))]
      exact this
    have hb4 : ctb (fu F3 p 4 1) nn L E p up s := fun g x hg hx => (ho4 (p + 2) _ (Or.inl (by omega))).trans (hb3 g x hg hx)
    have hd4 : ∀ c, c < 2 * L → fu F3 p 4 1 (p + 4) c = lod nn L E (bts s) (bts up) c := fun c hc => (ho4 (p + 4) _ (Or.inl (by omega))).trans (d3 c hc)
    refine ⟨x1, ((m1.tr (b2.mono (by simp))).tr (d2.mono (by simp))).wr (by simp), hr4, hb4, hd4, rcs_rci hu hs hr4, fun _ => ⟨hr4.2.2.1, ?_⟩⟩
    rw [hr4.1, hr4.2.1]
    exact ⟨hb4, hd4⟩
  · obtain ⟨x1, x2⟩ := q1 z
    subst x2
    have := (a5 z).2
    rw [a3.1, a3.2.1] at this
    exact ⟨x1, m1, a3, this.1, this.2, a4, a5⟩
end LOADS
end
section
/-! States, and a packet's step -/
/-- packet j, told by the class's state q and by the reference's row X -/
def pk (F : fx_F) (q : Nat) (X : Nat → Nat) (nn L j : Nat) : Prop := (F (q + 1) j = 4294967295 ∧ X (41 + j) = 0) ∨ (X (41 + j) = 1 ∧ X (65 + j) = F (q + 1) j ∧ F (q + 1) j < nn ∧ X (53 + j) = F (q + 2) j ∧ F (q + 2) j < nn ∧ X (77 + j) = F (q + 3) j ∧ (F (q + 3) j = 4294967295 ∨ F (q + 3) j < 2 * L) ∧ X (89 + j) = F (q + 4) j)
/-- the class's state q tells what row X tells -/
def sc (F : fx_F) (q : Nat) (X : Nat → Nat) (nn L : Nat) (E : Nat → Nat) : Prop := (F q 0 = X 40 ∧ X 40 < 10 ∧ (X 40 < nn ∨ nn = 0)) ∧ (F q 1 < 2 ^ L ∧ ∀ l, l < L → X (20 + l) = ue E (bts (F q 1)) l) ∧ (F q 2 < 2 ^ L ∧ ∀ l, l < L → X l = if (F q 2).testBit l then 1 else 0) ∧ F q 3 = X 101 ∧ ∀ j, j < 12 → pk F q X nn L j
/-- where states lie -/
def sok (q : Nat) : Prop := 53 ≤ q ∧ (q ≤ 153 ∨ 160 ≤ q) ∧ q ≤ 170
section GO
variable {nn L q j R : Nat} {E : Nat → Nat} {v : fx_V} {F' : fx_F}
theorem mst_sc {X : Nat → Nat} {s l : Nat} (h : X l = if s.testBit l then 1 else 0) : bts s l = Nat.beq (X l) 1 := by
  rw [h]
  show s.testBit l = _
  cases s.testBit l <;> rfl
/-- how many packets came by channel c -/
def cby (F : fx_F) (q c : Nat) : Nat := cnt (fun j => !(Nat.beq (F (q + 1) j) 4294967295) && Nat.beq (F (q + 3) j) c) 12
theorem s_ccame {c : Nat} {F : fx_F} (h : Cl k_St_countCameBy [(2, q), (0, c)] F v F') : F' = F ∧ v = (0, cby F q c) := by
  obtain ⟨n, h⟩ := c_St_countCameBy h
  obtain ⟨m, hm2, hR⟩ := q_St_countCameBy_0 h
  generalize hp : (fun j => !(Nat.beq (F (q + 1) j) 4294967295) && Nat.beq (F (q + 3) j) c) = p
  have hpt : ∀ j, p j = true ↔ F (q + 1) j ≠ 4294967295 ∧ F (q + 3) j = c := fun j => by
    rw [← hp]
    show (!(Nat.beq (F (q + 1) j) 4294967295) && Nat.beq (F (q + 3) j) c) = true ↔ _
    rw [Bool.and_eq_true, rx_beq]
    refine and_congr ?_ Iff.rfl
    rw [Bool.not_eq_true', ← Bool.not_eq_true, rx_beq]
  have lp : ∀ (n j : Nat), Rn n k_St_countCameBy 4 [(2, q), (0, c), (0, cnt p j), (0, j)] [] F v F' → j ≤ 12 → F' = F ∧ v = (0, cnt p 12) := by
    intro n
    induction n using Nat.strongRecOn with
    | ind n ih =>
      intro j h hj
      have hc := cnt_le p j
      have Q := q_St_countCameBy_4 h
      rcases Nat.lt_or_ge j 12 with hlt | hge
      · replace Q := Q.2 (by rw [b_lt (by clear Q; omega) (by decide)]; exact hlt)
        rw [b_add (show j + 1 < 4294967296 by clear Q; omega), b_add (show cnt p j + 1 < 4294967296 by clear Q; omega)] at Q
        have ey : p j = true → cnt p (j + 1) = cnt p j + 1 := fun z => by show cnt p j + (if p j then 1 else 0) = _; rw [z, if_pos rfl]
        have en : p j ≠ true → cnt p (j + 1) = cnt p j := fun z => by show cnt p j + (if p j then 1 else 0) = _; rw [if_neg z]; rfl
        by_cases e : F (q + 1) j = 4294967295
        · obtain ⟨m, hm, hR⟩ := Q.1 e
          exact ih m hm (j + 1) (by rw [en (fun z => ((hpt j).mp z).1 e)]; exact hR) hlt
        · replace Q := Q.2 e
          by_cases e2 : F (q + 3) j = c
          · obtain ⟨m, hm, hR⟩ := Q.2 e2
            exact ih m hm (j + 1) (by rw [ey ((hpt j).mpr ⟨e, e2⟩)]; exact hR) hlt
          · obtain ⟨m, hm, hR⟩ := Q.1 e2
            exact ih m hm (j + 1) (by rw [en (fun z => e2 ((hpt j).mp z).2)]; exact hR) hlt
      · obtain ⟨x1, x2⟩ := Q.1 (by rw [b_le (by decide) (by clear Q; omega)]; exact hge)
        clear Q
        have : j = 12 := by omega
        subst this
        exact ⟨x2, x1⟩
  have := lp m 0 hR (Nat.zero_le _)
  unfold cby
  rw [hp]
  exact this
def mby (X : Nat → Nat) (c : Nat) : Nat := cnt (fun j => Nat.beq (X (41 + j)) 1 && Nat.beq (X (77 + j)) c) 12
theorem s_mcame {c : Nat} {F : fx_F} (h : Cl k_M_cameBy [(2, 175), (0, c)] F v F') : F' = F ∧ v = (0, mby (F 176) c) := by
  obtain ⟨n, h⟩ := c_M_cameBy h
  obtain ⟨m, hm2, hR⟩ := q_M_cameBy_0 h
  generalize hp : (fun j => Nat.beq (F 176 (41 + j)) 1 && Nat.beq (F 176 (77 + j)) c) = p
  have hpt : ∀ j, p j = true ↔ F 176 (41 + j) = 1 ∧ F 176 (77 + j) = c := fun j => by
    rw [← hp]
    show (Nat.beq (F 176 (41 + j)) 1 && Nat.beq (F 176 (77 + j)) c) = true ↔ _
    rw [Bool.and_eq_true, rx_beq, rx_beq]
  have lp : ∀ (n j : Nat), Rn n k_M_cameBy 4 [(2, 175), (0, c), (0, cnt p j), (0, j)] [] F v F' → j ≤ 12 → F' = F ∧ v = (0, cnt p 12) := by
    intro n
    induction n using Nat.strongRecOn with
    | ind n ih =>
      intro j h hj
      have hc := cnt_le p j
      have q := q_M_cameBy_4 h
      rcases Nat.lt_or_ge j 12 with hlt | hge
      · replace q := q.2 (by rw [b_lt (by clear q; omega) (by decide)]; exact hlt)
        rw [b_add (show j + 1 < 4294967296 by clear q; omega), b_add (show cnt p j + 1 < 4294967296 by clear q; omega), b_add (show cnt p j + 0 < 4294967296 by clear q; omega), b_add (show 41 + j < 4294967296 by clear q; omega), b_add (show 77 + j < 4294967296 by clear q; omega), Nat.add_zero] at q
        have ey : p j = true → cnt p (j + 1) = cnt p j + 1 := fun z => by show cnt p j + (if p j then 1 else 0) = _; rw [z, if_pos rfl]
        have en : p j ≠ true → cnt p (j + 1) = cnt p j := fun z => by show cnt p j + (if p j then 1 else 0) = _; rw [if_neg z]; rfl
        by_cases e : F 176 (41 + j) = 1
        · replace q := q.2 e
          by_cases e2 : F 176 (77 + j) = c
          · obtain ⟨m, hm, hR⟩ := q.2 e2
            exact ih m hm (j + 1) (by rw [ey ((hpt j).mpr ⟨e, e2⟩)]; exact hR) hlt
          · obtain ⟨m, hm, hR⟩ := q.1 e2
            exact ih m hm (j + 1) (by rw [en (fun z => e2 ((hpt j).mp z).2)]; exact hR) hlt
        · obtain ⟨m, hm, hR⟩ := q.1 e
          exact ih m hm (j + 1) (by rw [en (fun z => e ((hpt j).mp z).1)]; exact hR) hlt
      · obtain ⟨x1, x2⟩ := q.1 (by rw [b_le (by decide) (by clear q; omega)]; exact hge)
        clear q
        have : j = 12 := by omega
        subst this
        exact ⟨x2, x1⟩
  have := lp m 0 hR (Nat.zero_le _)
  unfold mby
  rw [hp]
  exact this
theorem by_eq {F : fx_F} {X : Nat → Nat} {c : Nat} (h : ∀ j, j < 12 → pk F q X nn L j) (hnn : nn ≤ 10) : cby F q c = mby X c := by
  refine cnt_congr (fun j hj => ?_)
  show (!(Nat.beq (F (q + 1) j) 4294967295) && Nat.beq (F (q + 3) j) c) = (Nat.beq (X (41 + j)) 1 && Nat.beq (X (77 + j)) c)
  rcases h j hj with ⟨a, b⟩ | ⟨a, b, b2, d, e, f, g⟩
  · rw [a, b]; rfl
  · rw [a, f]
    have : Nat.beq (F (q + 1) j) 4294967295 = false := by
      cases hq : Nat.beq (F (q + 1) j) 4294967295 with
      | false => rfl
      | true => have := rx_beq.mp hq; omega
    rw [this]; rfl
/-- the state a packet is in by the channel it came by -/
def lay (u : Nat → Bool) (c : Nat) : Nat := if c = 4294967295 then 0 else bh u c
theorem lay_le (u : Nat → Bool) (c : Nat) : lay u c < 2 := by
  unfold lay; split
  · omega
  · have := bh_le u c; omega
/-- what the class's packet does -/
def cgo (F F' : fx_F) (q j R : Nat) (y : Nat) : Prop := (F (q + 1) j = F (q + 2) j ∧ F' = fu (fu (fu F (q + 1) j 4294967295) q 3 (i_add (F q 3) 1)) 50 1 (i_add (F 50 1) 1)) ∨ (F (q + 1) j ≠ F (q + 2) j ∧ (y = 4294967295 ∨ R ≤ cby F q y) ∧ F' = fu (fu F (q + 4) j (i_add (F (q + 4) j) 1)) 50 2 (i_add (F 50 2) 1)) ∨ (F (q + 1) j ≠ F (q + 2) j ∧ y ≠ 4294967295 ∧ cby F q y < R ∧ F' = fu (fu (fu F (q + 1) j (F 5 y)) (q + 3) j y) 50 1 (i_add (F 50 1) 1))
theorem cby_le {F : fx_F} {c : Nat} : cby F q c ≤ 12 := cnt_le _ _
theorem s_goOn (hN : nt_ok nn L E) (hq : sok q) (hj : j < 12) {F : fx_F} (hcn : cn F nn L E) (hR : F 3 3 = R) (hR2 : R < 2147483648) (hs : F q 2 < 2147483648) (hu : F q 1 < 2147483648) (ht : ctb F nn L E 24 (F q 1) (F q 2)) (ha : F (q + 1) j < nn) (hg : F (q + 2) j < nn) (hcm : F (q + 3) j = 4294967295 ∨ F (q + 3) j < 2 * L) (h : Cl k_Tr_goOn [(2, 50), (2, q), (2, 24), (0, j)] F v F') : v = (2, 0) ∧ cgo F F' q j R (ent nn L E (bts (F q 2)) (bts (F q 1)) (F (q + 2) j) (2 * F (q + 1) j + lay (bts (F q 1)) (F (q + 3) j))) := by
  obtain ⟨n, h⟩ := c_Tr_goOn h
  have hL := hN.2.1
  have hn := hN.1
  have ix : ∀ t, t < 2 → F (24 + 2) (i_add (i_add (i_mul (F (q + 2) j) 20) (i_mul 2 (F (q + 1) j))) t) = ent nn L E (bts (F q 2)) (bts (F q 1)) (F (q + 2) j) (2 * F (q + 1) j + t) := fun t ht2 => by
    rw [b_mul (show F (q + 2) j * 20 < 4294967296 by omega), b_mul (show 2 * F (q + 1) j < 4294967296 by omega), b_add (show F (q + 2) j * 20 + 2 * F (q + 1) j < 4294967296 by omega), b_add (show F (q + 2) j * 20 + 2 * F (q + 1) j + t < 4294967296 by omega), ← ht _ _ hg (show 2 * F (q + 1) j + t < 2 * nn by omega)]
    congr 1
    omega
  obtain ⟨hq1, hq2, hq3⟩ := hq
  have Q := q_Tr_goOn_0 h
  rw [ix 0 (by decide), ix 1 (by decide)] at Q
  by_cases e : F (q + 1) j = F (q + 2) j
  · obtain ⟨x1, x2⟩ := Q.2 e
    clear Q
    refine ⟨x1, Or.inl ⟨e, x2.trans ?_⟩⟩
    rw [fu_p (show (q : Nat) ≠ q + 1 by omega), fu_p (show (50 : Nat) ≠ q by omega), fu_p (show (50 : Nat) ≠ q + 1 by omega)]
  · replace Q := Q.1 e
    -- by the layer
    have fin : ∀ t, lay (bts (F q 1)) (F (q + 3) j) = t → ((ent nn L E (bts (F q 2)) (bts (F q 1)) (F (q + 2) j) (2 * F (q + 1) j + t) = 4294967295 → v = (2, 0) ∧ F' = (fu (fu F (q + 4) j (i_add (F (q + 4) j) 1)) 50 2 (i_add ((fu F (q + 4) j (i_add (F (q + 4) j) 1)) 50 2) 1))) ∧ (ent nn L E (bts (F q 2)) (bts (F q 1)) (F (q + 2) j) (2 * F (q + 1) j + t) ≠ 4294967295 → ∃ (n1 : Nat) (F1 : fx_F), Cl k_St_countCameBy [(2, q), (0, ent nn L E (bts (F q 2)) (bts (F q 1)) (F (q + 2) j) (2 * F (q + 1) j + t))] F (0, n1) F1 ∧ (s_lt n1 (F1 3 3) → v = (2, 0) ∧ F' = (fu (fu (fu F1 (q + 1) j (F1 5 (ent nn L E (bts (F q 2)) (bts (F q 1)) (F (q + 2) j) (2 * F (q + 1) j + t)))) (q + 3) j (ent nn L E (bts (F q 2)) (bts (F q 1)) (F (q + 2) j) (2 * F (q + 1) j + t))) 50 1 (i_add ((fu (fu F1 (q + 1) j (F1 5 (ent nn L E (bts (F q 2)) (bts (F q 1)) (F (q + 2) j) (2 * F (q + 1) j + t)))) (q + 3) j (ent nn L E (bts (F q 2)) (bts (F q 1)) (F (q + 2) j) (2 * F (q + 1) j + t))) 50 1) 1))) ∧ (s_le (F1 3 3) n1 → v = (2, 0) ∧ F' = (fu (fu F1 (q + 4) j (i_add (F1 (q + 4) j) 1)) 50 2 (i_add ((fu F1 (q + 4) j (i_add (F1 (q + 4) j) 1)) 50 2) 1))))) → v = (2, 0) ∧ cgo F F' q j R (ent nn L E (bts (F q 2)) (bts (F q 1)) (F (q + 2) j) (2 * F (q + 1) j + lay (bts (F q 1)) (F (q + 3) j))) := by
      clear Q
      intro t htt Q
      rw [htt]
      generalize ent nn L E (bts (F q 2)) (bts (F q 1)) (F (q + 2) j) (2 * F (q + 1) j + t) = y at *
      have w : fu (fu F (q + 4) j (i_add (F (q + 4) j) 1)) 50 2 (i_add ((fu F (q + 4) j (i_add (F (q + 4) j) 1)) 50 2) 1) = fu (fu F (q + 4) j (i_add (F (q + 4) j) 1)) 50 2 (i_add (F 50 2) 1) := by
        rw [fu_p (show (50 : Nat) ≠ q + 4 by omega)]
      by_cases z : y = 4294967295
      · obtain ⟨x1, x2⟩ := Q.1 z
        exact ⟨x1, Or.inr (Or.inl ⟨e, Or.inl z, x2.trans w⟩)⟩
      · obtain ⟨n1, F1, c1, Q1, Q2⟩ := Q.2 z
        clear Q
        obtain ⟨a1, a2⟩ := s_ccame c1
        subst a1
        cases a2
        rw [hR] at Q1 Q2
        have h12 := @cby_le q F1 y
        rcases Nat.lt_or_ge (cby F1 q y) R with k | k
        · obtain ⟨x1, x2⟩ := Q1 (by rw [b_lt (by clear Q1 Q2; omega) hR2]; exact k)
          refine ⟨x1, Or.inr (Or.inr ⟨e, z, k, x2.trans ?_⟩)⟩
          rw [fu_p (show (50 : Nat) ≠ q + 3 by clear Q1 Q2; omega), fu_p (show (50 : Nat) ≠ q + 1 by clear Q1 Q2; omega)]
        · obtain ⟨x1, x2⟩ := Q2 (by rw [b_le hR2 (by clear Q1 Q2; omega)]; exact k)
          exact ⟨x1, Or.inr (Or.inl ⟨e, Or.inr k, x2.trans w⟩)⟩
    by_cases ec : F (q + 3) j = 4294967295
    · exact fin 0 (by unfold lay; rw [if_pos ec]) (Q.1 ec)
    · replace Q := Q.2 ec
      have hc2 := hcm.resolve_left ec
      have hb := bh_code hu (show F (q + 3) j < 64 by clear Q; omega)
      by_cases eb : i_and (i_shr (F q 1) (i_shr (F (q + 3) j) 1)) 1 = i_and (F (q + 3) j) 1
      · exact fin 1 (by unfold lay; rw [if_neg ec]; exact hb.1 eb) (Q.1 eb)
      · exact fin 0 (by unfold lay; rw [if_neg ec]; exact hb.2 eb) (Q.2 eb)
/-- what the reference's packet does -/
def mgo2 (G G' : fx_F) (w j R : Nat) (E : Nat → Nat) (y : Nat) : Prop := (G 176 (65 + j) = G 176 (53 + j) ∧ w = 1 ∧ G' = fu (fu G 176 (41 + j) 0) 176 101 (i_add (G 176 101) 1)) ∨ (G 176 (65 + j) ≠ G 176 (53 + j) ∧ (y = 4294967295 ∨ R ≤ mby (G 176) y) ∧ w = 0 ∧ G' = G) ∨ (G 176 (65 + j) ≠ G 176 (53 + j) ∧ y ≠ 4294967295 ∧ mby (G 176) y < R ∧ w = 1 ∧ G' = fu (fu G 176 (65 + j) (E (nf y))) 176 (77 + j) y)
theorem mby_le {X : Nat → Nat} {c : Nat} : mby X c ≤ 12 := cnt_le _ _
theorem s_goPacket (hN : nt_ok nn L E) (hj : j < 12) {st u : Nat → Bool} {G G' : fx_F} (hI : mgi G nn L E st u) (hR : G 180 (G 175 9) = R) (hR2 : R < 2147483648) (ht : mtb G nn L E st u) (ha : G 176 (65 + j) < nn) (hg : G 176 (53 + j) < nn) (hcm : G 176 (77 + j) = 4294967295 ∨ G 176 (77 + j) < 2 * L) (h : Cl k_M_goPacket [(2, 175), (0, j)] G v G') : ∃ w, v = (0, w) ∧ mgo2 G G' w j R E (ent nn L E st u (G 176 (53 + j)) (2 * G 176 (65 + j) + lay u (G 176 (77 + j)))) := by
  obtain ⟨n, h⟩ := c_M_goPacket h
  have hL := hN.2.1
  have hn := hN.1
  obtain ⟨hm, hst, hu⟩ := hI
  have ix : ∀ t, t < 2 → G 196 (i_add (i_add (i_mul 20 (G 176 (53 + j))) (i_mul 2 (G 176 (65 + j)))) t) = ent nn L E st u (G 176 (53 + j)) (2 * G 176 (65 + j) + t) := fun t ht2 => by
    rw [b_mul (show 20 * G 176 (53 + j) < 4294967296 by omega), b_mul (show 2 * G 176 (65 + j) < 4294967296 by omega), b_add (show 20 * G 176 (53 + j) + 2 * G 176 (65 + j) < 4294967296 by omega), b_add (show 20 * G 176 (53 + j) + 2 * G 176 (65 + j) + t < 4294967296 by omega), Nat.add_assoc]
    exact ht _ _ hg (by omega)
  have Q := q_M_goPacket_0 h
  rw [b_add (show 65 + j < 4294967296 by clear Q; omega), b_add (show 53 + j < 4294967296 by clear Q; omega), b_add (show 77 + j < 4294967296 by clear Q; omega), b_add (show 41 + j < 4294967296 by clear Q; omega), ix 0 (by decide), ix 1 (by decide)] at Q
  by_cases e : G 176 (65 + j) = G 176 (53 + j)
  · obtain ⟨x1, x2⟩ := Q.2 e
    clear Q
    refine ⟨1, x1, Or.inl ⟨e, rfl, x2.trans ?_⟩⟩
    rw [fu_i (show 101 ≠ 41 + j by omega)]
  · replace Q := (Q.1 e).1 e
    have fin : ∀ t, lay u (G 176 (77 + j)) = t → ((s_lt (ent nn L E st u (G 176 (53 + j)) (2 * G 176 (65 + j) + t)) 0 → v = (0, 0) ∧ G' = G) ∧ (s_le 0 (ent nn L E st u (G 176 (53 + j)) (2 * G 176 (65 + j) + t)) → ∃ (n1 : Nat) (F1 : fx_F), Cl k_M_cameBy [(2, 175), (0, ent nn L E st u (G 176 (53 + j)) (2 * G 176 (65 + j) + t))] G (0, n1) F1 ∧ (s_lt n1 (F1 180 (F1 175 9)) → v = (0, 1) ∧ G' = (fu (fu F1 176 (65 + j) (F1 183 (i_add (i_add (i_mul 40 (F1 175 9)) (i_mul 2 (i_div (ent nn L E st u (G 176 (53 + j)) (2 * G 176 (65 + j) + t)) 2))) (i_sub 1 (i_rem (ent nn L E st u (G 176 (53 + j)) (2 * G 176 (65 + j) + t)) 2))))) 176 (77 + j) (ent nn L E st u (G 176 (53 + j)) (2 * G 176 (65 + j) + t)))) ∧ (s_le (F1 180 (F1 175 9)) n1 → v = (0, 0) ∧ G' = F1))) → ∃ w, v = (0, w) ∧ mgo2 G G' w j R E (ent nn L E st u (G 176 (53 + j)) (2 * G 176 (65 + j) + lay u (G 176 (77 + j)))) := by
      clear Q
      intro t htt Q
      rw [htt]
      have hy := ent_q (nn := nn) (L := L) (E := E) (st := st) (u := u) (g := G 176 (53 + j)) (x := 2 * G 176 (65 + j) + t)
      by_cases z : ent nn L E st u (G 176 (53 + j)) (2 * G 176 (65 + j) + t) = 4294967295
      · obtain ⟨x1, x2⟩ := Q.1 (by rw [z, b_neg (by decide)]; decide)
        exact ⟨0, x1, Or.inr (Or.inl ⟨e, Or.inl z, rfl, x2⟩)⟩
      · have hyl := (hy.resolve_left z).1
        generalize ent nn L E st u (G 176 (53 + j)) (2 * G 176 (65 + j) + t) = y at *
        obtain ⟨n1, F1, c1, Q1, Q2⟩ := Q.2 (by rw [b_pos (by clear Q; omega)]; clear Q; omega)
        clear Q
        obtain ⟨a1, a2⟩ := s_mcame c1
        subst a1
        cases a2
        rw [hR] at Q1 Q2
        rw [mTo hm hL hyl] at Q1
        have h12 := @mby_le (F1 176) y
        rcases Nat.lt_or_ge (mby (F1 176) y) R with k | k
        · obtain ⟨x1, x2⟩ := Q1 (by rw [b_lt (by clear Q1 Q2; omega) hR2]; exact k)
          exact ⟨1, x1, Or.inr (Or.inr ⟨e, z, k, rfl, x2⟩)⟩
        · obtain ⟨x1, x2⟩ := Q2 (by rw [b_le hR2 (by clear Q1 Q2; omega)]; exact k)
          exact ⟨0, x1, Or.inr (Or.inl ⟨e, Or.inr k, rfl, x2⟩)⟩
    by_cases ec : G 176 (77 + j) = 4294967295
    · exact fin 0 (by unfold lay; rw [if_pos ec]) (Q.1 (by rw [ec, b_neg (by decide)]; decide))
    · have hc2 := hcm.resolve_left ec
      replace Q := Q.2 (by rw [b_pos (by clear Q; omega)]; clear Q; omega)
      rw [mTo hm hL hc2, b_div (show G 176 (77 + j) < 2147483648 by clear Q; omega) (by decide) (by decide), b_add (show 20 + G 176 (77 + j) / 2 < 4294967296 by clear Q; omega)] at Q
      have upc : E (nf (G 176 (77 + j))) = G 176 (20 + G 176 (77 + j) / 2) ↔ isup u (G 176 (77 + j)) = true := by rw [hu (G 176 (77 + j) / 2) (by clear Q; omega)]; exact isup_ue hN hc2
      by_cases eb : E (nf (G 176 (77 + j))) = G 176 (20 + G 176 (77 + j) / 2)
      · exact fin 0 (by unfold lay bh; rw [if_neg ec, if_pos (upc.mp eb)]) (Q.2 eb)
      · exact fin 1 (by unfold lay bh; rw [if_neg ec, if_neg (fun z => eb (upc.mpr z))]) (Q.1 eb)
end GO
end
section
/-! Steps, on both sides -/
section STEP
variable {nn L q j R : Nat} {E : Nat → Nat} {v : fx_V} {F F' G G' : fx_F}
theorem i_add_lt {x y : Nat} : i_add x y < 4294967296 := i_lt32.1 x y
theorem sc_mgi (hN : nt_ok nn L E) (h : sc F q (G 176) nn L E) (hm : mn G nn L E) : mgi G nn L E (bts (F q 2)) (bts (F q 1)) := ⟨hm, fun l hl => mst_sc (h.2.2.1.2 l hl), fun l hl => h.2.1.2 l hl⟩
theorem sc_lt (hN : nt_ok nn L E) {X : Nat → Nat} (h : sc F q X nn L E) : F q 1 < 1048576 ∧ F q 2 < 1048576 := ⟨p20 hN.2.1 h.2.1.1, p20 hN.2.1 h.2.2.1.1⟩
/-- one packet, on both sides -/
theorem s_packet (hN : nt_ok nn L E) (hq : sok q) (hj : j < 12) (hcn : cn F nn L E) {w : Nat} {G1 : fx_F} (hs : sc F q (G 176) nn L E) (hne : F (q + 1) j ≠ 4294967295) (y : Nat) (hyl : y = 4294967295 ∨ y < 2 * L) (hc : cgo F F' q j R y) (hm : mgo2 G G1 w j R E y) (hG : G' = if w = 0 then fu G1 176 (89 + j) (i_add (G1 176 (89 + j)) 1) else G1) : sc F' q (G' 176) nn L E ∧ w ≤ 1 ∧ (F' 50 1 = if w = 0 then F 50 1 else i_add (F 50 1) 1) ∧ fxo [q, q + 1, q + 3, q + 4, 50] F F' ∧ fxo [176] G G' ∧ (∀ i, i < 41 → G' 176 i = G 176 i) ∧ F' q 1 = F q 1 ∧ F' q 2 = F q 2 := by
  have hn := hN.1
  have hL := hN.2.1
  obtain ⟨q1, q2, q3⟩ := hq
  obtain ⟨⟨s1, s1a, s1b⟩, s2, s3, s4, s5⟩ := hs
  have hp := s5 j hj
  obtain ⟨p1, p2, p3, p4, p5, p6, p7, p8⟩ := hp.resolve_left (fun z => hne z.1)
  have hby := by_eq (c := y) s5 hn
  rcases hc with ⟨c1, c2⟩ | ⟨c1, c2, c3⟩ | ⟨c1, c2, c3, c4⟩
  · -- it arrives
    rcases hm with ⟨m1, m2, m3⟩ | ⟨m1, _⟩ | ⟨m1, _⟩
    · subst m2
      rw [if_neg (by decide)] at hG
      subst hG
      subst m3
      subst c2
      refine ⟨⟨⟨?_, ?_, ?_⟩, ⟨?_, fun l hl => ?_⟩, ⟨?_, fun l hl => ?_⟩, ?_, fun i hi => ?_⟩, Nat.le_refl 1, ?_, ?_, (fxo.rf.wr (by simp)).wr (by simp), fun i hi => ?_, ?_, ?_⟩
      · rw [fu_p (show q ≠ 50 by omega), fu_i (by decide), fu_p (show q ≠ q + 1 by omega), fu_i (by decide), fu_i (by omega)]; exact s1
      · rw [fu_i (by decide), fu_i (by omega)]; exact s1a
      · rw [fu_i (by decide), fu_i (by omega)]; exact s1b
      · rw [fu_p (show q ≠ 50 by omega), fu_i (by decide), fu_p (show q ≠ q + 1 by omega)]; exact s2.1
      · rw [fu_p (show q ≠ 50 by omega), fu_i (show 1 ≠ 3 by decide), fu_p (show q ≠ q + 1 by omega), fu_i (show 20 + l ≠ 101 by omega), fu_i (show 20 + l ≠ 41 + j by omega)]; exact s2.2 l hl
      · rw [fu_p (show q ≠ 50 by omega), fu_i (by decide), fu_p (show q ≠ q + 1 by omega)]; exact s3.1
      · rw [fu_p (show q ≠ 50 by omega), fu_i (show 2 ≠ 3 by decide), fu_p (show q ≠ q + 1 by omega), fu_i (show l ≠ 101 by omega), fu_i (show l ≠ 41 + j by omega)]; exact s3.2 l hl
      · rw [fu_p (show q ≠ 50 by omega), fu_same, fu_same, s4]
      · unfold pk
        rw [fu_p (show q + 1 ≠ 50 by omega), fu_p (show q + 1 ≠ q by omega), fu_p (show q + 2 ≠ 50 by omega), fu_p (show q + 2 ≠ q by omega), fu_p (show q + 2 ≠ q + 1 by omega), fu_p (show q + 3 ≠ 50 by omega), fu_p (show q + 3 ≠ q by omega), fu_p (show q + 3 ≠ q + 1 by omega), fu_p (show q + 4 ≠ 50 by omega), fu_p (show q + 4 ≠ q by omega), fu_p (show q + 4 ≠ q + 1 by omega)]
        rw [fu_i (show 41 + i ≠ 101 by omega), fu_i (show 65 + i ≠ 101 by omega), fu_i (show 53 + i ≠ 101 by omega), fu_i (show 77 + i ≠ 101 by omega), fu_i (show 89 + i ≠ 101 by omega), fu_i (show 65 + i ≠ 41 + j by omega), fu_i (show 53 + i ≠ 41 + j by omega), fu_i (show 77 + i ≠ 41 + j by omega), fu_i (show 89 + i ≠ 41 + j by omega)]
        by_cases e : i = j
        · subst e; rw [fu_same, fu_same]; exact Or.inl ⟨rfl, rfl⟩
        · rw [fu_i e, fu_i (show 41 + i ≠ 41 + j by omega)]; exact s5 i hi
      · rw [fu_same]; rfl
      · exact ((fxo.rf.wr (by simp)).wr (by simp)).wr (by simp)
      · rw [fu_i (by omega), fu_i (by omega)]
      · rw [fu_p (show q ≠ 50 by omega), fu_i (by decide), fu_p (show q ≠ q + 1 by omega)]
      · rw [fu_p (show q ≠ 50 by omega), fu_i (by decide), fu_p (show q ≠ q + 1 by omega)]
    · exact absurd (by rw [p2, p4]; exact c1) m1
    · exact absurd (by rw [p2, p4]; exact c1) m1
  · -- it waits
    rcases hm with ⟨m1, _⟩ | ⟨m1, m2, m3, m4⟩ | ⟨m1, m2, m3, _⟩
    · exact absurd (by rw [← p2, ← p4]; exact m1) c1
    · subst m3
      rw [if_pos rfl] at hG
      subst m4
      subst hG
      subst c3
      refine ⟨⟨⟨?_, ?_, ?_⟩, ⟨?_, fun l hl => ?_⟩, ⟨?_, fun l hl => ?_⟩, ?_, fun i hi => ?_⟩, Nat.zero_le 1, ?_, ?_, fxo.rf.wr (by simp), fun i hi => ?_, ?_, ?_⟩
      · rw [fu_p (show q ≠ 50 by omega), fu_p (show q ≠ q + 4 by omega), fu_i (by omega)]; exact s1
      · rw [fu_i (by omega)]; exact s1a
      · rw [fu_i (by omega)]; exact s1b
      · rw [fu_p (show q ≠ 50 by omega), fu_p (show q ≠ q + 4 by omega)]; exact s2.1
      · rw [fu_p (show q ≠ 50 by omega), fu_p (show q ≠ q + 4 by omega), fu_i (by omega)]; exact s2.2 l hl
      · rw [fu_p (show q ≠ 50 by omega), fu_p (show q ≠ q + 4 by omega)]; exact s3.1
      · rw [fu_p (show q ≠ 50 by omega), fu_p (show q ≠ q + 4 by omega), fu_i (by omega)]; exact s3.2 l hl
      · rw [fu_p (show q ≠ 50 by omega), fu_p (show q ≠ q + 4 by omega), fu_i (by omega)]; exact s4
      · unfold pk
        rw [fu_p (show q + 1 ≠ 50 by omega), fu_p (show q + 1 ≠ q + 4 by omega), fu_p (show q + 2 ≠ 50 by omega), fu_p (show q + 2 ≠ q + 4 by omega), fu_p (show q + 3 ≠ 50 by omega), fu_p (show q + 3 ≠ q + 4 by omega), fu_p (show q + 4 ≠ 50 by omega)]
        rw [fu_i (show 41 + i ≠ 89 + j by omega), fu_i (show 65 + i ≠ 89 + j by omega), fu_i (show 53 + i ≠ 89 + j by omega), fu_i (show 77 + i ≠ 89 + j by omega)]
        by_cases e : i = j
        · subst e
          rw [fu_same, fu_same, p8]
          exact Or.inr ⟨p1, p2, p3, p4, p5, p6, p7, rfl⟩
        · rw [fu_i e, fu_i (show 89 + i ≠ 89 + j by omega)]; exact s5 i hi
      · rw [fu_i (by decide), fu_p (show 50 ≠ q + 4 by omega)]; rfl
      · exact (fxo.rf.wr (by simp)).wr (by simp)
      · rw [fu_i (by omega)]
      · rw [fu_p (show q ≠ 50 by omega), fu_p (show q ≠ q + 4 by omega)]
      · rw [fu_p (show q ≠ 50 by omega), fu_p (show q ≠ q + 4 by omega)]
    · rcases c2 with z | z
      · exact absurd z m2
      · rw [hby] at z; omega
  · -- it goes on
    rcases hm with ⟨m1, _⟩ | ⟨m1, m2, _⟩ | ⟨m1, m2, m3, m4, m5⟩
    · exact absurd (by rw [← p2, ← p4]; exact m1) c1
    · rcases m2 with z | z
      · exact absurd z c2
      · rw [← hby] at z; omega
    · subst m4
      rw [if_neg (by decide)] at hG
      subst hG
      subst m5
      subst c4
      have hy2 := hyl.resolve_left c2
      have e5 : F 5 y = E (nf y) := (hcn.2.2 y hy2).2
      have eN : E (nf y) < nn := (hN.2.2 _ (nf_lt hy2)).1
      rw [e5]
      refine ⟨⟨⟨?_, ?_, ?_⟩, ⟨?_, fun l hl => ?_⟩, ⟨?_, fun l hl => ?_⟩, ?_, fun i hi => ?_⟩, Nat.le_refl 1, ?_, ?_, (fxo.rf.wr (by simp)).wr (by simp), fun i hi => ?_, ?_, ?_⟩
      · rw [fu_p (show q ≠ 50 by omega), fu_p (show q ≠ q + 3 by omega), fu_p (show q ≠ q + 1 by omega), fu_i (by omega), fu_i (by omega)]; exact s1
      · rw [fu_i (by omega), fu_i (by omega)]; exact s1a
      · rw [fu_i (by omega), fu_i (by omega)]; exact s1b
      · rw [fu_p (show q ≠ 50 by omega), fu_p (show q ≠ q + 3 by omega), fu_p (show q ≠ q + 1 by omega)]; exact s2.1
      · rw [fu_p (show q ≠ 50 by omega), fu_p (show q ≠ q + 3 by omega), fu_p (show q ≠ q + 1 by omega), fu_i (by omega), fu_i (by omega)]; exact s2.2 l hl
      · rw [fu_p (show q ≠ 50 by omega), fu_p (show q ≠ q + 3 by omega), fu_p (show q ≠ q + 1 by omega)]; exact s3.1
      · rw [fu_p (show q ≠ 50 by omega), fu_p (show q ≠ q + 3 by omega), fu_p (show q ≠ q + 1 by omega), fu_i (by omega), fu_i (by omega)]; exact s3.2 l hl
      · rw [fu_p (show q ≠ 50 by omega), fu_p (show q ≠ q + 3 by omega), fu_p (show q ≠ q + 1 by omega), fu_i (by omega), fu_i (by omega)]; exact s4
      · unfold pk
        rw [fu_p (show q + 1 ≠ 50 by omega), fu_p (show q + 1 ≠ q + 3 by omega), fu_p (show q + 2 ≠ 50 by omega), fu_p (show q + 2 ≠ q + 3 by omega), fu_p (show q + 2 ≠ q + 1 by omega), fu_p (show q + 3 ≠ 50 by omega), fu_p (show q + 4 ≠ 50 by omega), fu_p (show q + 4 ≠ q + 3 by omega), fu_p (show q + 4 ≠ q + 1 by omega)]
        rw [fu_i (show 41 + i ≠ 77 + j by omega), fu_i (show 41 + i ≠ 65 + j by omega), fu_i (show 65 + i ≠ 77 + j by omega), fu_i (show 53 + i ≠ 77 + j by omega), fu_i (show 53 + i ≠ 65 + j by omega), fu_i (show 89 + i ≠ 77 + j by omega), fu_i (show 89 + i ≠ 65 + j by omega)]
        by_cases e : i = j
        · subst e
          rw [fu_same, fu_same, fu_same, fu_same]
          exact Or.inr ⟨p1, rfl, eN, p4, p5, rfl, Or.inr hy2, p8⟩
        · rw [fu_i e, fu_i (show 65 + i ≠ 65 + j by omega), fu_i (show 77 + i ≠ 77 + j by omega), fu_i (show 77 + i ≠ 65 + j by omega), fu_i e, fu_p (show q + 3 ≠ q + 1 by omega)]
          exact s5 i hi
      · rw [fu_same]; rfl
      · exact ((fxo.rf.wr (by simp)).wr (by simp)).wr (by simp)
      · rw [fu_i (by omega), fu_i (by omega)]
      · rw [fu_p (show q ≠ 50 by omega), fu_p (show q ≠ q + 3 by omega), fu_p (show q ≠ q + 1 by omega)]
      · rw [fu_p (show q ≠ 50 by omega), fu_p (show q ≠ q + 3 by omega), fu_p (show q ≠ q + 1 by omega)]
end STEP
end
section
/-! Whole steps, on both sides -/
section STEPS
variable {nn L q R : Nat} {E : Nat → Nat} {v v2 : fx_V} {F F' G G' : fx_F}
theorem sc_congr {X X' : Nat → Nat} {q' : Nat} (h : sc F q X nn L E) (hL : L ≤ 20) (h0 : ∀ i, i < 4 → F' q' i = F q i) (h1 : ∀ i, i < 12 → F' (q' + 1) i = F (q + 1) i ∧ F' (q' + 2) i = F (q + 2) i ∧ F' (q' + 3) i = F (q + 3) i ∧ F' (q' + 4) i = F (q + 4) i) (hX : ∀ i, i < 102 → X' i = X i) : sc F' q' X' nn L E := by
  obtain ⟨⟨s1, s1a, s1b⟩, s2, s3, s4, s5⟩ := h
  refine ⟨⟨?_, ?_, ?_⟩, ⟨?_, fun l hl => ?_⟩, ⟨?_, fun l hl => ?_⟩, ?_, fun i hi => ?_⟩
  · rw [h0 0 (by decide), hX 40 (by decide)]; exact s1
  · rw [hX 40 (by decide)]; exact s1a
  · rw [hX 40 (by decide)]; exact s1b
  · rw [h0 1 (by decide)]; exact s2.1
  · rw [h0 1 (by decide), hX _ (by omega)]; exact s2.2 l hl
  · rw [h0 2 (by decide)]; exact s3.1
  · rw [h0 2 (by decide), hX _ (by omega)]; exact s3.2 l hl
  · rw [h0 3 (by decide), hX 101 (by decide)]; exact s4
  · obtain ⟨k1, k2, k3, k4⟩ := h1 i hi
    unfold pk
    rw [k1, k2, k3, k4, hX _ (by omega), hX _ (by omega), hX _ (by omega), hX _ (by omega), hX _ (by omega)]
    exact s5 i hi
theorem sc_F (h : sc F q (G 176) nn L E) (hL : L ≤ 20) {S : List Nat} (ho : fxo S F F') (h0 : q ∉ S) (h1 : q + 1 ∉ S) (h2 : q + 2 ∉ S) (h3 : q + 3 ∉ S) (h4 : q + 4 ∉ S) : sc F' q (G 176) nn L E := sc_congr h hL (fun i _ => ho q i h0) (fun i _ => ⟨ho _ i h1, ho _ i h2, ho _ i h3, ho _ i h4⟩) (fun _ _ => rfl)
theorem mtb.keep {st u : Nat → Bool} (h : mtb G nn L E st u) {S : List Nat} (ho : fxo S G G') (h1 : 196 ∉ S) : mtb G' nn L E st u := fun g x hg hx => (ho 196 _ h1).trans (h g x hg hx)
/-- what a step needs of the class's side -/
def stc (F : fx_F) (nn L : Nat) (E : Nat → Nat) (q R : Nat) : Prop := cn F nn L E ∧ F 3 3 = R ∧ rcs F nn L E 24 (F q 1) (F q 2) ∧ ctb F nn L E 24 (F q 1) (F q 2)
theorem stc.keep (h : stc F nn L E q R) (hq : sok q) (h1 : F' q 1 = F q 1) (h2 : F' q 2 = F q 2) (ho : fxo [q, q + 1, q + 3, q + 4, 50] F F') : stc F' nn L E q R := by
  obtain ⟨q1, q2, q3⟩ := hq
  obtain ⟨a, b, c, d⟩ := h
  unfold stc
  rw [h1, h2]
  refine ⟨a.keep ho (by simp; omega) (by simp; omega) (by simp; omega), by rw [ho 3 3 (by simp; omega)]; exact b, c.keep ho (by simp; omega) (by simp; omega) (by simp; omega), d.keep ho (by simp; omega)⟩
theorem s_step2 (hN : nt_ok nn L E) (hq : sok q) (hR : R < 2147483648) (hF : stc F nn L E q R) (hm : mn G nn L E) (hGR : G 180 (G 175 9) = R) (hs : sc F q (G 176) nn L E) (h50 : F 50 1 < 2147483648) (h : Cl k_Tr_goStep [(2, 50), (2, q), (2, 24)] F v F') (h2 : Cl k_M_goStep [(2, 175)] G v2 G') : ∃ w, v2 = (0, w) ∧ w ≤ 12 ∧ F' 50 1 = F 50 1 + w ∧ sc F' q (G' 176) nn L E ∧ fxo [q, q + 1, q + 3, q + 4, 50] F F' ∧ fxo [176, 193, 196, 197] G G' ∧ (∀ i, i < 41 → G' 176 i = G 176 i) ∧ F' q 1 = F q 1 ∧ F' q 2 = F q 2 := by
  have hL := hN.2.1
  have hn := hN.1
  obtain ⟨q1, q2, q3⟩ := id hq
  obtain ⟨nF, h⟩ := c_Tr_goStep h
  obtain ⟨mF, hmF, hRF⟩ := q_Tr_goStep_0 h
  obtain ⟨nG, h2⟩ := c_M_goStep h2
  obtain ⟨G1, cG, mG, hmG, hRG⟩ := q_M_goStep_0 h2
  have hI := sc_mgi hN hs hm
  obtain ⟨-, o1, t1, -⟩ := s_mlayTable hN hI cG
  have lp : ∀ (k j : Nat), j + k = 12 → ∀ (nF nG : Nat) (F2 G2 : fx_F) (w : Nat), Rn nF k_Tr_goStep 2 [(2, 50), (2, q), (2, 24), (0, j)] [] F2 v F' → Rn nG k_M_goStep 19 [(2, 175), (0, w), (0, j)] [] G2 v2 G' → w ≤ j → F2 50 1 = F 50 1 + w → sc F2 q (G2 176) nn L E → fxo [q, q + 1, q + 3, q + 4, 50] F F2 → fxo [176, 193, 196, 197] G G2 → mtb G2 nn L E (bts (F q 2)) (bts (F q 1)) → (∀ i, i < 41 → G2 176 i = G 176 i) → F2 q 1 = F q 1 → F2 q 2 = F q 2 → ∃ w, v2 = (0, w) ∧ w ≤ 12 ∧ F' 50 1 = F 50 1 + w ∧ sc F' q (G' 176) nn L E ∧ fxo [q, q + 1, q + 3, q + 4, 50] F F' ∧ fxo [176, 193, 196, 197] G G' ∧ (∀ i, i < 41 → G' 176 i = G 176 i) ∧ F' q 1 = F q 1 ∧ F' q 2 = F q 2 := by
    intro k
    induction k with
    | zero =>
      intro j hj nF nG F2 G2 w hF2 hG2 hw e50 hs2 oF oG tG k41 e1 e2
      have j12 : j = 12 := by omega
      subst j12
      obtain ⟨x1, x2⟩ := (q_Tr_goStep_2 hF2).1 (by rw [b_le (by decide) (by decide)]; exact Nat.le_refl _)
      obtain ⟨y1, y2⟩ := (q_M_goStep_19 hG2).1 (by rw [b_le (by decide) (by decide)]; exact Nat.le_refl _)
      subst x2
      subst y2
      refine ⟨w, y1, hw, ?_, sc_congr hs2 hL (fun i hi => fu_i (by omega)) (fun i _ => ⟨fu_p (by omega), fu_p (by omega), fu_p (by omega), fu_p (by omega)⟩) (fun _ _ => rfl), oF.wr (by simp), oG, k41, ?_, ?_⟩
      · rw [fu_p (by omega)]; exact e50
      · rw [fu_i (by decide)]; exact e1
      · rw [fu_i (by decide)]; exact e2
    | succ k ih =>
      intro j hj nF nG F2 G2 w hF2 hG2 hw e50 hs2 oF oG tG k41 e1 e2
      have hj12 : j < 12 := by omega
      have Q := ((((q_Tr_goStep_2 hF2).2 (by rw [b_lt (by omega) (by decide)]; exact hj12)).2 (by rw [b_le (by decide) (by omega)]; exact Nat.zero_le _)).2 (by rw [b_lt (by omega) (by decide)]; exact hj12))
      have QG := (q_M_goStep_19 hG2).2 (by rw [b_lt (by omega) (by decide)]; exact hj12)
      have aj : i_add j 1 = j + 1 := b_add (by omega)
      have a41 : i_add 41 j = 41 + j := b_add (by omega)
      have a89 : i_add 89 j = 89 + j := b_add (by omega)
      rw [aj] at Q QG
      rw [a41, a89] at QG
      have hp := hs2.2.2.2.2 j hj12
      by_cases hz : F2 (q + 1) j = 4294967295
      · obtain ⟨m, _, hR2⟩ := Q.1 hz
        clear Q
        have hX : G2 176 (41 + j) = 0 := by
          rcases hp with ⟨_, b⟩ | ⟨_, _, b, _⟩
          · exact b
          · rw [hz] at b
            exfalso
            clear QG
            omega
        obtain ⟨m2, _, hR3⟩ := QG.2 hX
        clear QG
        exact ih (j + 1) (by omega) m m2 F2 G2 w hR2 hR3 (by omega) e50 hs2 oF oG tG k41 e1 e2
      · obtain ⟨F3, c3, m, _, hR2⟩ := Q.2 hz
        clear Q
        obtain ⟨p1, p2, p3, p4, p5, p6, p7, p8⟩ := hp.resolve_left (fun z => hz z.1)
        have hX : G2 176 (41 + j) ≠ 0 := by rw [p1]; decide
        obtain ⟨n1, G3, c4, Q1, Q2⟩ := QG.1 hX
        clear QG
        have hF2' := hF.keep hq e1 e2 oF
        obtain ⟨k1, k2, k3, k4⟩ := hF2'
        have hb := sc_lt hN hs2
        obtain ⟨-, cg⟩ := s_goOn hN hq hj12 k1 k2 hR (by clear Q1 Q2; omega) (by clear Q1 Q2; omega) k4 p3 p5 p7 c3
        have hm2 : mn G2 nn L E := hm.keep oG (by decide) (by decide) (by decide) (by decide)
        have hI2 := sc_mgi hN hs2 hm2
        rw [← e1, ← e2] at tG
        obtain ⟨w', e5, mg⟩ := s_goPacket hN hj12 hI2 ((oG 180 _ (by decide)).trans (by rw [oG 175 _ (by decide)]; exact hGR)) hR tG (by rw [p2]; exact p3) (by rw [p4]; exact p5) (by rw [p6]; exact p7) c4
        cases e5
        have ey : ent nn L E (bts (F2 q 2)) (bts (F2 q 1)) (G2 176 (53 + j)) (2 * G2 176 (65 + j) + lay (bts (F2 q 1)) (G2 176 (77 + j))) = ent nn L E (bts (F2 q 2)) (bts (F2 q 1)) (F2 (q + 2) j) (2 * F2 (q + 1) j + lay (bts (F2 q 1)) (F2 (q + 3) j)) := by rw [p2, p4, p6]
        rw [ey] at mg
        have hyl : ent nn L E (bts (F2 q 2)) (bts (F2 q 1)) (F2 (q + 2) j) (2 * F2 (q + 1) j + lay (bts (F2 q 1)) (F2 (q + 3) j)) = 4294967295 ∨ ent nn L E (bts (F2 q 2)) (bts (F2 q 1)) (F2 (q + 2) j) (2 * F2 (q + 1) j + lay (bts (F2 q 1)) (F2 (q + 3) j)) < 2 * L := by
          rcases ent_q (nn := nn) (L := L) (E := E) (st := bts (F2 q 2)) (u := bts (F2 q 1)) (g := F2 (q + 2) j) (x := 2 * F2 (q + 1) j + lay (bts (F2 q 1)) (F2 (q + 3) j)) with z | z
          · exact Or.inl z
          · exact Or.inr z.1
        rw [e1, e2] at tG
        obtain ⟨s1, s2, s3, s4, s5, s6, s7, s8⟩ := s_packet (G' := if n1 = 0 then fu G3 176 (89 + j) (i_add (G3 176 (89 + j)) 1) else G3) hN hq hj12 k1 hs2 hz _ hyl cg mg rfl
        by_cases hw0 : n1 = 0
        · obtain ⟨m2, _, hR3⟩ := Q1 hw0
          clear Q1 Q2
          rw [if_pos hw0] at s1 s3 s5 s6
          exact ih (j + 1) (by omega) m m2 F3 _ w hR2 hR3 (by omega) (s3.trans e50) s1 (oF.tr s4) (oG.tr (s5.mono (by decide))) (tG.keep s5 (by decide)) (fun i hi => (s6 i hi).trans (k41 i hi)) (s7.trans e1) (s8.trans e2)
        · obtain ⟨m2, _, hR3⟩ := Q2 hw0
          clear Q1 Q2
          rw [if_neg hw0] at s1 s3 s5 s6
          rw [b_add (show w + 1 < 4294967296 by omega)] at hR3
          exact ih (j + 1) (by omega) m m2 F3 _ (w + 1) hR2 hR3 (by omega) (by rw [s3, e50, b_add (by omega)]; rfl) s1 (oF.tr s4) (oG.tr (s5.mono (by decide))) (tG.keep s5 (by decide)) (fun i hi => (s6 i hi).trans (k41 i hi)) (s7.trans e1) (s8.trans e2)
  refine lp 12 0 rfl mF mG F _ 0 hRF hRG (Nat.le_refl 0) rfl (sc_congr hs hL (fun _ _ => rfl) (fun _ _ => ⟨rfl, rfl, rfl, rfl⟩) (fun i hi => ?_)) fxo.rf ((o1.mono (by decide)).wr (by decide)) (fun g x hg hx => (fu_p (by decide)).trans (t1 g x hg hx)) (fun i hi => ?_) rfl rfl
  · rw [fu_i (by omega), o1 176 _ (by decide)]
  · rw [fu_i (by omega), o1 176 _ (by decide)]
/-- the cache of ways -/
def rcI (F : fx_F) (nn L : Nat) (E : Nat → Nat) (p : Nat) : Prop := rci F nn L E p ∧ rct F nn L E p
theorem s_steps2 (hN : nt_ok nn L E) (hq : sok q) (hR : R < 2147483648) {a : Nat} (ha : a ≤ 1000) (hcn : cn F nn L E) (hol : ocl F nn L E) (hFR : F 3 3 = R) (hrc : rcI F nn L E 24) (hm : mn G nn L E) (hGR : G 180 (G 175 9) = R) (hs : sc F q (G 176) nn L E) (h : Cl k_T_goSteps [(2, 2), (2, q), (0, a)] F v F') (h2 : Cl k_M_goSteps [(2, 175), (0, a)] G v2 G') : ∃ w, v = (0, w) ∧ v2 = (0, w) ∧ sc F' q (G' 176) nn L E ∧ fxo [24, 25, 26, 27, 28, 29, q, q + 1, q + 3, q + 4, 50] F F' ∧ fxo [176, 193, 196, 197] G G' ∧ (∀ i, i < 41 → G' 176 i = G 176 i) ∧ F' q 1 = F q 1 ∧ F' q 2 = F q 2 ∧ rcI F' nn L E 24 := by
  have hL := hN.2.1
  have hn := hN.1
  obtain ⟨q1, q2, q3⟩ := id hq
  obtain ⟨nF, h⟩ := c_T_goSteps h
  obtain ⟨F1, cF, mF, hmF, hRF⟩ := q_T_goSteps_0 h
  obtain ⟨nG, h2⟩ := c_M_goSteps h2
  obtain ⟨mG, hmG, hRG⟩ := q_M_goSteps_0 h2
  have hb := sc_lt hN hs
  obtain ⟨-, t2, t3, t4, -, t6, t7⟩ := s_seeTable hN (by omega) (by omega) (by decide) hcn hol hrc.1 hrc.2 cF
  have eF : ∀ i, fu (fu F1 50 1 0) 50 2 0 q i = F q i := fun i => by rw [fu_p (by omega), fu_p (by omega), t2 q i (by simp; omega)]
  have o0 : fxo [24, 25, 26, 27, 28, 29, q, q + 1, q + 3, q + 4, 50] F (fu (fu F1 50 1 0) 50 2 0) := ((t2.mono (by simp)).wr (by simp)).wr (by simp)
  have o00 : fxo [24, 25, 26, 27, 28, 29, 50] F (fu (fu F1 50 1 0) 50 2 0) := ((t2.mono (by simp)).wr (by simp)).wr (by simp)
  have ob : fxo [50] F1 (fu (fu F1 50 1 0) 50 2 0) := (fxo.rf.wr (by simp)).wr (by simp)
  have hstc : stc (fu (fu F1 50 1 0) 50 2 0) nn L E q R := by
    unfold stc
    rw [eF, eF]
    refine ⟨(hcn.keep t2 (by decide) (by decide) (by decide)).keep ob (by decide) (by decide) (by decide), by rw [ob 3 _ (by decide), t2 3 _ (by decide)]; exact hFR, t3.keep ob (by decide) (by decide) (by decide), t4.keep ob (by decide)⟩
  have hrI : rcI (fu (fu F1 50 1 0) 50 2 0) nn L E 24 := by
    have e : ∀ p i, p ≠ 50 → fu (fu F1 50 1 0) 50 2 0 p i = F1 p i := fun p i hp => by rw [fu_p hp, fu_p hp]
    refine ⟨?_, ?_⟩
    · unfold rci
      simp only [e _ _ (show (24 : Nat) ≠ 50 by decide), e _ _ (show (24 + 5 : Nat) ≠ 50 by decide), e _ _ (show (24 + 1 : Nat) ≠ 50 by decide)]
      exact t6
    · unfold rct ctb
      simp only [e _ _ (show (24 : Nat) ≠ 50 by decide), e _ _ (show (24 + 2 : Nat) ≠ 50 by decide), e _ _ (show (24 + 4 : Nat) ≠ 50 by decide)]
      exact t7
  have kI : ∀ F2 : fx_F, fxo [q, q + 1, q + 3, q + 4, 50] (fu (fu F1 50 1 0) 50 2 0) F2 → rcI F2 nn L E 24 := fun F2 ho => by
    have e : ∀ p i, p < 50 → F2 p i = (fu (fu F1 50 1 0) 50 2 0) p i := fun p i hp => ho p i (by simp; omega)
    refine ⟨?_, ?_⟩
    · unfold rci
      simp only [e _ _ (show (24 : Nat) < 50 by decide), e _ _ (show (24 + 5 : Nat) < 50 by decide), e _ _ (show (24 + 1 : Nat) < 50 by decide)]
      exact hrI.1
    · unfold rct ctb
      simp only [e _ _ (show (24 : Nat) < 50 by decide), e _ _ (show (24 + 2 : Nat) < 50 by decide), e _ _ (show (24 + 4 : Nat) < 50 by decide)]
      exact hrI.2
  have lp : ∀ (k i : Nat), i + k = a → ∀ (nF nG : Nat) (F2 G2 : fx_F) (w : Nat), Rn nF k_T_goSteps 24 [(2, 2), (2, q), (0, a), (0, i)] [] F2 v F' → Rn nG k_M_goSteps 4 [(2, 175), (0, a), (0, w), (0, i)] [] G2 v2 G' → w ≤ 12 * i → F2 50 1 = w → sc F2 q (G2 176) nn L E → fxo [q, q + 1, q + 3, q + 4, 50] (fu (fu F1 50 1 0) 50 2 0) F2 → fxo [176, 193, 196, 197] G G2 → (∀ i, i < 41 → G2 176 i = G 176 i) → F2 q 1 = F q 1 → F2 q 2 = F q 2 → ∃ w, v = (0, w) ∧ v2 = (0, w) ∧ sc F' q (G' 176) nn L E ∧ fxo [24, 25, 26, 27, 28, 29, q, q + 1, q + 3, q + 4, 50] F F' ∧ fxo [176, 193, 196, 197] G G' ∧ (∀ i, i < 41 → G' 176 i = G 176 i) ∧ F' q 1 = F q 1 ∧ F' q 2 = F q 2 ∧ rcI F' nn L E 24 := by
    intro k
    induction k with
    | zero =>
      intro i hi nF nG F2 G2 w hF2 hG2 hw e50 hs2 oF oG k41 e1 e2
      obtain ⟨x1, x2⟩ := (q_T_goSteps_24 hF2).1 (by rw [b_le (by omega) (by omega)]; omega)
      obtain ⟨y1, y2⟩ := (q_M_goSteps_4 hG2).1 (by rw [b_le (by omega) (by omega)]; omega)
      subst x2
      subst y2
      exact ⟨w, by rw [x1, e50], y1, hs2, o0.tr (oF.mono (by simp)), oG, k41, e1, e2, kI _ oF⟩
    | succ k ih =>
      intro i hi nF nG F2 G2 w hF2 hG2 hw e50 hs2 oF oG k41 e1 e2
      obtain ⟨F3, c3, m, _, hR2⟩ := (q_T_goSteps_24 hF2).2 (by rw [b_lt (by omega) (by omega)]; omega)
      obtain ⟨n1, G3, c4, m2, _, hR3⟩ := (q_M_goSteps_4 hG2).2 (by rw [b_lt (by omega) (by omega)]; omega)
      rw [b_add (show i + 1 < 4294967296 by omega)] at hR2 hR3
      have hst2 := hstc.keep hq (e1.trans (eF 1).symm) (e2.trans (eF 2).symm) oF
      obtain ⟨w', e5, b1, b2, b3, b4, b5, b6, b7, b8⟩ := s_step2 hN hq hR hst2 (hm.keep oG (by decide) (by decide) (by decide) (by decide)) ((oG 180 _ (by decide)).trans (by rw [oG 175 _ (by decide)]; exact hGR)) hs2 (by omega) c3 c4
      cases e5
      rw [b_add (show w + n1 < 4294967296 by omega)] at hR3
      exact ih (i + 1) (by omega) m m2 F3 G3 (w + n1) hR2 hR3 (by omega) (by omega) b3 (oF.tr b4) (oG.tr b5) (fun i hi => (b6 i hi).trans (k41 i hi)) (b7.trans e1) (b8.trans e2)
  exact lp a 0 (Nat.zero_add a) mF mG _ G 0 hRF hRG (Nat.zero_le _) (by rw [fu_i (by decide), fu_same]) (sc_F hs hL o00 (by simp; omega) (by simp; omega) (by simp; omega) (by simp; omega) (by simp; omega)) fxo.rf fxo.rf (fun _ _ => rfl) (eF 1) (eF 2)
end STEPS
end
section
/-! Histories and boxes, on both sides -/
/-- states that are now or in a slot -/
def S0 (q : Nat) : Prop := (53 ≤ q ∧ q ≤ 148 ∧ (q - 53) % 5 = 0) ∨ q = 160
theorem S0_sok {q : Nat} (h : S0 q) : sok q := by unfold S0 at h; unfold sok; omega
/-- histories in step -/
def hs (F G : fx_F) (nn L : Nat) (E : Nat → Nat) : Prop := (S0 (F 2 13) ∧ (∀ i, i < 20 → S0 (F 52 i) ∧ F 52 i ≠ F 2 13) ∧ ∀ i j, i < 20 → j < 20 → F 52 i = F 52 j → i = j) ∧ (F 51 1 < 20 ∧ F 51 2 + F 51 3 ≤ 20 ∧ G 175 56 = F 51 2 ∧ G 175 57 = F 51 3) ∧ (∀ i, i < F 51 2 + F 51 3 → sc F (F 52 ((F 51 1 + i) % 20)) (fun x => G 204 (103 * i + x)) nn L E) ∧ (F 158 0 = 165 ∧ F 158 1 = 170) ∧ ∀ b, b < 2 → (F 159 b ≠ 0 ↔ G 206 b ≠ 0) ∧ (G 206 b ≠ 0 → sc F (F 158 b) (fun x => G 205 (103 * b + x)) nn L E)
section HIST
variable {nn L : Nat} {E : Nat → Nat} {v v2 : fx_V} {F F' G G' : fx_F}
theorem s_copy {p a : Nat} (hd : ∀ t t', t < 5 → t' < 5 → p + t ≠ a + t') (h : Cl k_St_copyFrom [(2, p), (2, a)] F v F') : v = (2, 0) ∧ fxo [p, p + 1, p + 2, p + 3, p + 4] F F' ∧ (∀ i, i < 5 → F' p i = F a i) ∧ ∀ i, F' (p + 1) i = F (a + 1) i ∧ F' (p + 2) i = F (a + 2) i ∧ F' (p + 3) i = F (a + 3) i ∧ F' (p + 4) i = F (a + 4) i := by
  obtain ⟨n, h⟩ := c_St_copyFrom h
  obtain ⟨x1, x2⟩ := q_St_copyFrom_0 h
  have hne := hd 0 0 (by decide) (by decide)
  have hpa : a ≠ p := fun z => hne (by omega)
  have ha : ∀ t, t < 5 → a + t ≠ p := fun t ht z => hd 0 t (by decide) ht (by omega)
  have hat : ∀ t w, t < 5 → w < 5 → a + t ≠ p + w := fun t w ht hw z => hd w t hw ht z.symm
  subst x2
  simp only [fu_p hpa]
  refine ⟨x1, ?_, fun i hi => ?_, fun i => ⟨?_, ?_, ?_, ?_⟩⟩
  · exact ((((((((fxo.rf.wr (by simp)).wr (by simp)).wr (by simp)).wr (by simp)).wr (by simp)).cp (by simp)).cp (by simp)).cp (by simp)).cp (by simp)
  · rw [fcp_o (show p ≠ p + 4 by omega), fcp_o (show p ≠ p + 3 by omega), fcp_o (show p ≠ p + 2 by omega), fcp_o (show p ≠ p + 1 by omega)]
    have : i = 0 ∨ i = 1 ∨ i = 2 ∨ i = 3 ∨ i = 4 := by omega
    rcases this with e | e | e | e | e <;> subst e
    · rw [fu_i (by decide), fu_i (by decide), fu_i (by decide), fu_i (by decide), fu_same]
    · rw [fu_i (by decide), fu_i (by decide), fu_i (by decide), fu_same]
    · rw [fu_i (by decide), fu_i (by decide), fu_same]
    · rw [fu_i (by decide), fu_same]
    · rw [fu_same]
  · rw [fcp_o (show p + 1 ≠ p + 4 by omega), fcp_o (show p + 1 ≠ p + 3 by omega), fcp_o (show p + 1 ≠ p + 2 by omega), fcp_d]
    rw [fu_p (ha 1 (by decide)), fu_p (ha 1 (by decide)), fu_p (ha 1 (by decide)), fu_p (ha 1 (by decide)), fu_p (ha 1 (by decide))]
  · rw [fcp_o (show p + 2 ≠ p + 4 by omega), fcp_o (show p + 2 ≠ p + 3 by omega), fcp_d, fcp_o (hat 2 1 (by decide) (by decide))]
    rw [fu_p (ha 2 (by decide)), fu_p (ha 2 (by decide)), fu_p (ha 2 (by decide)), fu_p (ha 2 (by decide)), fu_p (ha 2 (by decide))]
  · rw [fcp_o (show p + 3 ≠ p + 4 by omega), fcp_d, fcp_o (hat 3 2 (by decide) (by decide)), fcp_o (hat 3 1 (by decide) (by decide))]
    rw [fu_p (ha 3 (by decide)), fu_p (ha 3 (by decide)), fu_p (ha 3 (by decide)), fu_p (ha 3 (by decide)), fu_p (ha 3 (by decide))]
  · rw [fcp_d, fcp_o (hat 4 3 (by decide) (by decide)), fcp_o (hat 4 2 (by decide) (by decide)), fcp_o (hat 4 1 (by decide) (by decide))]
    rw [fu_p (ha 4 (by decide)), fu_p (ha 4 (by decide)), fu_p (ha 4 (by decide)), fu_p (ha 4 (by decide)), fu_p (ha 4 (by decide))]
theorem s_copy2 {p a : Nat} {X : Nat → Nat} (hL : L ≤ 20) (hd : ∀ t t', t < 5 → t' < 5 → p + t ≠ a + t') (hX : sc F a X nn L E) (h : Cl k_St_copyFrom [(2, p), (2, a)] F v F') : v = (2, 0) ∧ fxo [p, p + 1, p + 2, p + 3, p + 4] F F' ∧ sc F' p X nn L E ∧ sc F' a X nn L E := by
  obtain ⟨x1, x2, x3, x4⟩ := s_copy hd h
  refine ⟨x1, x2, sc_congr hX hL (fun i hi => x3 i (by omega)) (fun i _ => x4 i) (fun _ _ => rfl), sc_congr hX hL (fun i _ => x2 a i (by simp; have := hd 0 0; have := hd 1 0; have := hd 2 0; have := hd 3 0; have := hd 4 0; omega)) (fun i _ => ⟨x2 _ i (by simp; have := hd 0 1; have := hd 1 1; have := hd 2 1; have := hd 3 1; have := hd 4 1; omega), x2 _ i (by simp; have := hd 0 2; have := hd 1 2; have := hd 2 2; have := hd 3 2; have := hd 4 2; omega), x2 _ i (by simp; have := hd 0 3; have := hd 1 3; have := hd 2 3; have := hd 3 3; have := hd 4 3; omega), x2 _ i (by simp; have := hd 0 4; have := hd 1 4; have := hd 2 4; have := hd 3 4; have := hd 4 4; omega)⟩) (fun _ _ => rfl)⟩
/-- states lie apart -/
theorem S0_apart {p a : Nat} (hp : S0 p) (ha : S0 a) (h : p ≠ a) : ∀ t t', t < 5 → t' < 5 → p + t ≠ a + t' := by
  intro t t' ht ht'
  unfold S0 at hp ha
  omega
/-- a state that is not p stays -/
theorem sc_away {p a : Nat} {X : Nat → Nat} (hL : L ≤ 20) (hd : ∀ t t', t < 5 → t' < 5 → p + t ≠ a + t') (ho : fxo [p, p + 1, p + 2, p + 3, p + 4] F F') (hX : sc F a X nn L E) : sc F' a X nn L E := by
  refine sc_congr hX hL (fun i _ => ho a i (by simp; have := hd 0 0; have := hd 1 0; have := hd 2 0; have := hd 3 0; have := hd 4 0; omega)) (fun i _ => ⟨ho _ i (by simp; have := hd 0 1; have := hd 1 1; have := hd 2 1; have := hd 3 1; have := hd 4 1; omega), ho _ i (by simp; have := hd 0 2; have := hd 1 2; have := hd 2 2; have := hd 3 2; have := hd 4 2; omega), ho _ i (by simp; have := hd 0 3; have := hd 1 3; have := hd 2 3; have := hd 3 3; have := hd 4 3; omega), ho _ i (by simp; have := hd 0 4; have := hd 1 4; have := hd 2 4; have := hd 3 4; have := hd 4 4; omega)⟩) (fun _ _ => rfl)
/-- the reference keeps an act -/
theorem s_keepAct (ha : G 175 56 ≤ 20) (h : Cl k_M_keepAct [(2, 175)] G v G') : v = (2, 0) ∧ fxo [175, 204] G G' ∧ G' 175 57 = 0 ∧ (∀ i, i ≠ 56 → i ≠ 57 → G' 175 i = G 175 i) ∧ ((G 175 56 ≠ 20 ∧ G' 175 56 = G 175 56 + 1 ∧ (∀ i, i < 103 * G 175 56 → G' 204 i = G 204 i) ∧ ∀ x, x < 103 → G' 204 (103 * G 175 56 + x) = G 176 x) ∨ (G 175 56 = 20 ∧ G' 175 56 = 20 ∧ (∀ i, i < 1957 → G' 204 i = G 204 (i + 103)) ∧ ∀ x, x < 103 → G' 204 (1957 + x) = G 176 x)) := by
  obtain ⟨n, h⟩ := c_M_keepAct h
  have Q := q_M_keepAct_0 h
  have l51 : ∀ (n : Nat) (G1 G2 : fx_F) (l k : Nat), Rn n k_M_keepAct 51 [(2, 175), (0, l)] [] G2 v G' → k ≤ 19 → G1 175 56 = k → l ≤ 103 → fxo [204] G1 G2 → (∀ i, i < 103 * k → G2 204 i = G1 204 i) → (∀ x, x < l → G2 204 (103 * k + x) = G1 176 x) → v = (2, 0) ∧ fxo [175, 204] G1 G' ∧ G' 175 57 = 0 ∧ (∀ i, i ≠ 56 → i ≠ 57 → G' 175 i = G1 175 i) ∧ G' 175 56 = k + 1 ∧ (∀ i, i < 103 * k → G' 204 i = G1 204 i) ∧ ∀ x, x < 103 → G' 204 (103 * k + x) = G1 176 x := by
    intro n
    induction n using Nat.strongRecOn with
    | ind n ih =>
      intro G1 G2 l k h hk h56 hl ho hA hB
      have Q := q_M_keepAct_51 h
      rcases Nat.lt_or_ge l 103 with hlt | hge
      · obtain ⟨m, hm, hR⟩ := Q.2 (by rw [b_lt (by clear Q; omega) (by decide)]; exact hlt)
        clear Q
        rw [ho 175 _ (by decide), h56, b_mul (show 103 * k < 4294967296 by omega), b_add (show 103 * k + l < 4294967296 by omega), b_add (show l + 1 < 4294967296 by omega)] at hR
        refine ih m hm G1 _ (l + 1) k hR hk h56 hlt (ho.wr (by decide)) (fun i hi => by rw [fu_i (by omega)]; exact hA i hi) (fun x hx => ?_)
        by_cases e : x = l
        · subst e; rw [fu_same, ho 176 _ (by decide)]
        · rw [fu_i (by omega)]; exact hB x (by omega)
      · obtain ⟨x1, x2⟩ := Q.1 (by rw [b_le (by decide) (by clear Q; omega)]; exact hge)
        clear Q
        rw [ho 175 _ (by decide), h56, b_add (show k + 1 < 4294967296 by omega)] at x2
        subst x2
        refine ⟨x1, ((ho.mono (by decide)).wr (by decide)).wr (by decide), fu_same, fun i h1 h2 => ?_, ?_, fun i hi => ?_, fun x hx => ?_⟩
        · rw [fu_i h2, fu_i h1, ho 175 _ (by decide)]
        · rw [fu_i (by decide), fu_same]
        · rw [fu_p (by decide), fu_p (by decide)]; exact hA i hi
        · rw [fu_p (by decide), fu_p (by decide)]; exact hB x (by omega)
  by_cases e : G 175 56 = 20
  · obtain ⟨m, hm, hR⟩ := Q.2 e
    clear Q
    have l11 : ∀ (n : Nat) (G2 : fx_F) (l : Nat), Rn n k_M_keepAct 11 [(2, 175), (0, l)] [] G2 v G' → l ≤ 2060 → fxo [204] G G2 → (∀ i, i < l → G2 204 i = G 204 (i + 103)) → (∀ i, l ≤ i → G2 204 i = G 204 i) → v = (2, 0) ∧ fxo [175, 204] G G' ∧ G' 175 57 = 0 ∧ (∀ i, i ≠ 56 → i ≠ 57 → G' 175 i = G 175 i) ∧ G' 175 56 = 20 ∧ (∀ i, i < 1957 → G' 204 i = G 204 (i + 103)) ∧ ∀ x, x < 103 → G' 204 (1957 + x) = G 176 x := by
      intro n
      induction n using Nat.strongRecOn with
      | ind n ih =>
        intro G2 l h hl ho hA hB
        have Q := q_M_keepAct_11 h
        rcases Nat.lt_or_ge l 2060 with hlt | hge
        · obtain ⟨m, hm, hR⟩ := Q.2 (by rw [b_lt (by clear Q; omega) (by decide)]; exact hlt)
          clear Q
          rw [b_add (show l + 103 < 4294967296 by omega), b_add (show l + 1 < 4294967296 by omega)] at hR
          refine ih m hm _ (l + 1) hR hlt (ho.wr (by decide)) (fun i hi => ?_) (fun i hi => by rw [fu_i (by omega)]; exact hB i (by omega))
          by_cases e : i = l
          · subst e; rw [fu_same]; exact hB _ (by omega)
          · rw [fu_i e]; exact hA i (by omega)
        · obtain ⟨m, hm, hR⟩ := Q.1 (by rw [b_le (by decide) (by clear Q; omega)]; exact hge)
          clear Q
          rw [ho 175 _ (by decide), e, b_sub (show 1 ≤ 20 by decide) (by decide)] at hR
          obtain ⟨r1, r2, r3, r4, r5, r6, r7⟩ := l51 m (fu G2 175 56 19) _ 0 19 hR (by decide) fu_same (by decide) fxo.rf (fun _ _ => rfl) (fun x hx => absurd hx (Nat.not_lt_zero _))
          refine ⟨r1, ((ho.mono (by decide)).wr (by decide)).tr r2, r3, fun i h1 h2 => ?_, r5, fun i hi => ?_, fun x hx => ?_⟩
          · rw [r4 i h1 h2, fu_i h1, ho 175 _ (by decide)]
          · rw [r6 i hi, fu_p (by decide)]; exact hA i (by omega)
          · have := r7 x hx
            rw [show 1957 + x = 103 * 19 + x by omega, this, fu_p (by decide), ho 176 _ (by decide)]
    obtain ⟨r1, r2, r3, r4, r5, r6, r7⟩ := l11 m G 0 hR (by decide) fxo.rf (fun i hi => absurd hi (Nat.not_lt_zero _)) (fun _ _ => rfl)
    exact ⟨r1, r2, r3, r4, Or.inr ⟨e, r5, r6, r7⟩⟩
  · obtain ⟨m, hm, hR⟩ := Q.1 e
    clear Q
    obtain ⟨r1, r2, r3, r4, r5, r6, r7⟩ := l51 m G G 0 (G 175 56) hR (by omega) rfl (by decide) fxo.rf (fun _ _ => rfl) (fun x hx => absurd hx (Nat.not_lt_zero _))
    exact ⟨r1, r2, r3, r4, Or.inl ⟨e, r5, r6, r7⟩⟩
theorem nm5 {x p : Nat} (hx : x < 53) (hp : S0 p) : x ∉ [p, p + 1, p + 2, p + 3, p + 4] := by unfold S0 at hp; simp; omega
/-- where now and the slots lie -/
def rg (p : Nat) : Prop := (53 ≤ p ∧ p ≤ 152) ∨ (160 ≤ p ∧ p ≤ 164)
/-- what an act's keeping leaves of the class's heap: all but the history and slots -/
def kpF (F F' : fx_F) : Prop := (∀ p i, p ≠ 51 → ¬ rg p → F' p i = F p i) ∧ ∀ t i, t < 5 → F' (F 2 13 + t) i = F (F 2 13 + t) i
theorem s_keep2 (hN : nt_ok nn L E) (hh : hs F G nn L E) (hs0 : sc F (F 2 13) (G 176) nn L E) (h : Cl k_Hi_keep [(2, 51), (2, F 2 13)] F v F') (h2 : Cl k_M_keepAct [(2, 175)] G v2 G') : v = (2, 0) ∧ v2 = (2, 0) ∧ hs F' G' nn L E ∧ sc F' (F 2 13) (G' 176) nn L E ∧ F' 2 13 = F 2 13 ∧ kpF F F' ∧ fxo [175, 204] G G' ∧ ∀ i, i ≠ 56 → i ≠ 57 → G' 175 i = G 175 i := by
  have hL := hN.2.1
  obtain ⟨⟨a1, a2, a3⟩, ⟨b1, b2, b3, b4⟩, c1, d1, e1⟩ := hh
  obtain ⟨r1, r2, r3, r4, r5⟩ := s_keepAct (by omega) h2
  obtain ⟨n, h⟩ := c_Hi_keep h
  have Q := q_Hi_keep_0 h
  -- a slot is laid
  have core : ∀ (F0 F1 : fx_F) (z k old : Nat), z < 20 → z = (old + k) % 20 → old < 20 → k ≤ 19 → (∀ p i, p ≠ 51 → F0 p i = F p i) → F0 51 1 = old → Cl k_St_copyFrom [(2, F 52 z), (2, F 2 13)] F0 (2, 0) F1 → v = (2, 0) → F' = fu (fu F1 51 2 (k + 1)) 51 3 0 → G' 175 56 = k + 1 → (∀ i, i < k → sc F (F 52 ((old + i) % 20)) (fun x => G' 204 (103 * i + x)) nn L E) → (∀ x, x < 103 → G' 204 (103 * k + x) = G 176 x) → v = (2, 0) ∧ v2 = (2, 0) ∧ hs F' G' nn L E ∧ sc F' (F 2 13) (G' 176) nn L E ∧ F' 2 13 = F 2 13 ∧ kpF F F' ∧ fxo [175, 204] G G' ∧ ∀ i, i ≠ 56 → i ≠ 57 → G' 175 i = G 175 i := by
    intro F0 F1 z k old hz hzk hold hk hF0 h51 hcp hv hF' h56 hrow hnew
    obtain ⟨s1, s2⟩ := a2 z hz
    have hap := S0_apart s1 a1 s2
    have sF0 : ∀ {q X}, sc F q X nn L E → S0 q ∨ q = 165 ∨ q = 170 → sc F0 q X nn L E := fun {q X} hx hq => sc_congr hx hL (fun i _ => hF0 q i (by unfold S0 at hq; omega)) (fun i _ => ⟨hF0 _ i (by unfold S0 at hq; omega), hF0 _ i (by unfold S0 at hq; omega), hF0 _ i (by unfold S0 at hq; omega), hF0 _ i (by unfold S0 at hq; omega)⟩) (fun _ _ => rfl)
    obtain ⟨-, y2, y3, y4⟩ := s_copy2 hL hap (sF0 hs0 (Or.inl a1)) hcp
    have eF1 : ∀ p i, p ≠ 51 → F' p i = F1 p i := fun p i hp => by rw [hF', fu_p hp, fu_p hp]
    have sF1 : ∀ {q X}, sc F1 q X nn L E → S0 q ∨ q = 165 ∨ q = 170 → sc F' q X nn L E := fun {q X} hx hq => sc_congr hx hL (fun i _ => eF1 q i (by unfold S0 at hq; omega)) (fun i _ => ⟨eF1 _ i (by unfold S0 at hq; omega), eF1 _ i (by unfold S0 at hq; omega), eF1 _ i (by unfold S0 at hq; omega), eF1 _ i (by unfold S0 at hq; omega)⟩) (fun _ _ => rfl)
    have s1' : F 52 z ≤ 160 ∧ 53 ≤ F 52 z := by unfold S0 at s1; omega
    have lo : ∀ p i, p ≠ 51 → ¬ rg p → F' p i = F p i := fun p i hp hp2 => by
      rw [eF1 p i hp, y2 p i (by simp; unfold rg at hp2; unfold S0 at s1; omega), hF0 p i hp]
    have e2 : F' 2 13 = F 2 13 := lo 2 13 (by decide) (by unfold rg; omega)
    have e52 : ∀ i, F' 52 i = F 52 i := fun i => lo 52 i (by decide) (by unfold rg; omega)
    have e511 : F' 51 1 = old := by rw [hF', fu_i (by decide), fu_i (by decide), y2 51 1 (by simp; omega), h51]
    have e512 : F' 51 2 = k + 1 := by rw [hF', fu_i (by decide), fu_same]
    have e513 : F' 51 3 = 0 := by rw [hF', fu_same]
    have g176 : ∀ i, G' 176 i = G 176 i := fun i => r2 176 i (by decide)
    refine ⟨hv, r1, ⟨?_, ?_, ?_, ?_, ?_⟩, ?_, e2, ⟨lo, fun t i ht => ?_⟩, r2, r4⟩
    · rw [e2]
      refine ⟨a1, fun i hi => by rw [e52]; exact a2 i hi, fun i j hi hj => by rw [e52, e52]; exact a3 i j hi hj⟩
    · rw [e511, e512, e513]
      exact ⟨hold, by omega, h56, r3⟩
    · rw [e511, e512, e513]
      intro i hi
      rw [e52]
      by_cases e : i = k
      · subst e
        rw [← hzk]
        exact sF1 (sc_congr y3 hL (fun _ _ => rfl) (fun _ _ => ⟨rfl, rfl, rfl, rfl⟩) (fun x hx => hnew x (by omega))) (Or.inl s1)
      · have hi2 : i < k := by omega
        obtain ⟨t1, _⟩ := a2 ((old + i) % 20) (Nat.mod_lt _ (by decide))
        refine sF1 (sc_away hL (S0_apart s1 t1 (fun w => ?_)) y2 (sF0 (hrow i hi2) (Or.inl t1))) (Or.inl t1)
        have := a3 z _ hz (Nat.mod_lt _ (by decide)) w
        omega
    · exact ⟨(lo 158 0 (by decide) (by unfold rg; omega)).trans d1.1, (lo 158 1 (by decide) (by unfold rg; omega)).trans d1.2⟩
    · intro b hb
      obtain ⟨t1, t2⟩ := e1 b hb
      have h159 : F' 159 b = F 159 b := by rw [eF1 159 b (by decide), y2 159 b (by simp; unfold S0 at s1; omega), hF0 159 b (by decide)]
      have h158 : F' 158 b = F 158 b := by rw [eF1 158 b (by decide), y2 158 b (by simp; unfold S0 at s1; omega), hF0 158 b (by decide)]
      rw [h159, h158, r2 206 _ (by decide)]
      refine ⟨t1, fun w => ?_⟩
      have hb158 : F 158 b = 165 ∨ F 158 b = 170 := by
        have : b = 0 ∨ b = 1 := by omega
        rcases this with e | e
        · subst e; exact Or.inl d1.1
        · subst e; exact Or.inr d1.2
      refine sF1 (sc_away hL (fun t t' ht ht' => by unfold S0 at s1; omega) y2 (sF0 (sc_congr (t2 w) hL (fun _ _ => rfl) (fun _ _ => ⟨rfl, rfl, rfl, rfl⟩) (fun x _ => r2 205 _ (by decide))) (Or.inr hb158))) (Or.inr hb158)
    · exact sF1 (sc_congr y4 hL (fun _ _ => rfl) (fun _ _ => ⟨rfl, rfl, rfl, rfl⟩) (fun x _ => g176 x)) (Or.inl a1)
    · have h51t : F 2 13 + t ≠ 51 := by unfold S0 at a1; omega
      rw [eF1 (F 2 13 + t) i h51t, y2 (F 2 13 + t) i (by simp; have := hap 0 t; have := hap 1 t; have := hap 2 t; have := hap 3 t; have := hap 4 t; omega), hF0 (F 2 13 + t) i h51t]
  rcases r5 with ⟨r5, r6, r7, r8⟩ | ⟨r5, r6, r7, r8⟩
  · rw [b3] at r5 r6 r7 r8
    obtain ⟨F1, hcp, hv, hF'⟩ := Q.1 r5
    clear Q
    rw [b_add (show F 51 1 + F 51 2 < 4294967296 by omega), b_rem (show F 51 1 + F 51 2 < 2147483648 by omega) (by decide) (by decide)] at hcp
    refine core F F1 _ (F 51 2) (F 51 1) (Nat.mod_lt _ (by decide)) rfl b1 (by omega) (fun _ _ _ => rfl) rfl hcp hv (hF'.trans ?_) r6 (fun i hi => ?_) r8
    · have hz := (a2 ((F 51 1 + F 51 2) % 20) (Nat.mod_lt _ (by decide))).1
      obtain ⟨-, y2, -, -⟩ := s_copy (S0_apart hz a1 (a2 _ (Nat.mod_lt _ (by decide))).2) hcp
      rw [y2 51 2 (nm5 (by decide) hz), b_add (show F 51 2 + 1 < 4294967296 by omega)]
    · exact sc_congr (c1 i (by omega)) hL (fun _ _ => rfl) (fun _ _ => ⟨rfl, rfl, rfl, rfl⟩) (fun x hx => r7 _ (by omega))
  · rw [b3] at r5
    obtain ⟨F1, hcp, hv, hF'⟩ := Q.2 r5
    clear Q
    have ho1 : i_rem (i_add (F 51 1) 1) 20 = (F 51 1 + 1) % 20 := by
      rw [b_add (show F 51 1 + 1 < 4294967296 by omega), b_rem (show F 51 1 + 1 < 2147483648 by omega) (by decide) (by decide)]
    have hz2 : i_rem (i_add ((F 51 1 + 1) % 20) (i_sub (F 51 2) 1)) 20 = ((F 51 1 + 1) % 20 + 19) % 20 := by
      rw [r5, b_sub (show 1 ≤ 20 by decide) (by decide)]
      show i_rem (i_add ((F 51 1 + 1) % 20) 19) 20 = _
      rw [b_add (show (F 51 1 + 1) % 20 + 19 < 4294967296 by omega), b_rem (show (F 51 1 + 1) % 20 + 19 < 2147483648 by omega) (by decide) (by decide)]
    rw [ho1, hz2] at hcp
    have hsub : i_sub (F 51 2) 1 = 19 := by rw [r5, b_sub (show 1 ≤ 20 by decide) (by decide)]
    rw [hsub] at hcp
    refine core _ F1 _ 19 ((F 51 1 + 1) % 20) (Nat.mod_lt _ (by decide)) rfl (Nat.mod_lt _ (by decide)) (Nat.le_refl _) (fun p i hp => by rw [fu_p hp, fu_p hp]) (by rw [fu_i (by decide), fu_same]) hcp hv (hF'.trans ?_) r6 (fun i hi => ?_) (fun x hx => r8 x hx)
    · have hz := (a2 (((F 51 1 + 1) % 20 + 19) % 20) (Nat.mod_lt _ (by decide))).1
      obtain ⟨-, y2, -, -⟩ := s_copy (S0_apart hz a1 (a2 _ (Nat.mod_lt _ (by decide))).2) hcp
      rw [y2 51 2 (nm5 (by decide) hz), fu_same, b_add (show 19 + 1 < 4294967296 by decide)]
    · have := c1 (i + 1) (by omega)
      rw [show ((F 51 1 + 1) % 20 + i) % 20 = (F 51 1 + (i + 1)) % 20 by omega]
      exact sc_congr this hL (fun _ _ => rfl) (fun _ _ => ⟨rfl, rfl, rfl, rfl⟩) (fun x hx => by
        rw [r7 (103 * i + x) (by omega)]
        congr 1
        omega)
end HIST
end
section
/-! undo, redo, image, back, on both sides -/
section BACK
variable {nn L : Nat} {E : Nat → Nat} {v v2 : fx_V} {F F' G G' : fx_F}
theorem s_swapAll {k : Nat} (hk : k < 20) (h56 : G 175 56 = k) (h : Cl k_M_swapAll [(2, 175)] G v G') : v = (2, 0) ∧ fxo [176, 204] G G' ∧ (∀ x, x < 103 → G' 176 x = G 204 (103 * k + x) ∧ G' 204 (103 * k + x) = G 176 x) ∧ (∀ i, (i < 103 * k ∨ 103 * k + 103 ≤ i) → G' 204 i = G 204 i) := by
  obtain ⟨n, h⟩ := c_M_swapAll h
  obtain ⟨m, hm2, hR⟩ := q_M_swapAll_0 h
  have lp : ∀ (n : Nat) (G2 : fx_F) (l : Nat), Rn n k_M_swapAll 2 [(2, 175), (0, l), (3, 0)] [] G2 v G' → l ≤ 103 → fxo [176, 204] G G2 → (∀ x, x < l → G2 176 x = G 204 (103 * k + x) ∧ G2 204 (103 * k + x) = G 176 x) → (∀ x, l ≤ x → x < 103 → G2 176 x = G 176 x ∧ G2 204 (103 * k + x) = G 204 (103 * k + x)) → (∀ i, (i < 103 * k ∨ 103 * k + 103 ≤ i) → G2 204 i = G 204 i) → v = (2, 0) ∧ fxo [176, 204] G G' ∧ (∀ x, x < 103 → G' 176 x = G 204 (103 * k + x) ∧ G' 204 (103 * k + x) = G 176 x) ∧ (∀ i, (i < 103 * k ∨ 103 * k + 103 ≤ i) → G' 204 i = G 204 i) := by
    intro n
    induction n using Nat.strongRecOn with
    | ind n ih =>
      intro G2 l h hl ho hA hB hC
      have Q := q_M_swapAll_2 h
      rcases Nat.lt_or_ge l 103 with hlt | hge
      · obtain ⟨m, hm, hR⟩ := Q.2 (by rw [b_lt (by clear Q; omega) (by decide)]; exact hlt)
        clear Q
        obtain ⟨b1, b2⟩ := hB l (Nat.le_refl l) hlt
        rw [ho 175 _ (by decide), h56, b_mul (show 103 * k < 4294967296 by omega), b_add (show 103 * k + l < 4294967296 by omega), b_add (show l + 1 < 4294967296 by omega), b1, b2] at hR
        refine ih m hm _ (l + 1) hR hlt ((ho.wr (by decide)).wr (by decide)) (fun x hx => ?_) (fun x hx hx2 => ?_) (fun i hi => ?_)
        · by_cases e : x = l
          · subst e; rw [fu_same, fu_p (by decide), fu_same]; exact ⟨rfl, rfl⟩
          · rw [fu_i e, fu_p (by decide), fu_p (by decide), fu_i (by omega)]; exact hA x (by omega)
        · rw [fu_i (by omega), fu_p (by decide), fu_p (by decide), fu_i (by omega)]; exact hB x (by omega) hx2
        · rw [fu_p (by decide), fu_i (by omega)]; exact hC i hi
      · obtain ⟨x1, x2⟩ := Q.1 (by rw [b_le (by decide) (by clear Q; omega)]; exact hge)
        clear Q
        subst x2
        exact ⟨x1, ho, fun x hx => hA x (by omega), hC⟩
  exact lp m G 0 hR (Nat.zero_le _) fxo.rf (fun x hx => absurd hx (Nat.not_lt_zero _)) (fun _ _ _ => ⟨rfl, rfl⟩) (fun _ _ => rfl)
/-- now and a slot are exchanged -/
theorem hs_swap {k d u z : Nat} {F2 G2 : fx_F} (hL : L ≤ 20) (hh : hs F G nn L E) (hs0 : sc F (F 2 13) (G 176) nn L E) (hk : k < F 51 2 + F 51 3) (hz : z = (F 51 1 + k) % 20) (hdu : d + u = F 51 2 + F 51 3) (f1 : ∀ p i, p ≠ 2 → p ≠ 51 → p ≠ 52 → F2 p i = F p i) (f2 : F2 2 13 = F 52 z) (f3 : F2 51 1 = F 51 1 ∧ F2 51 2 = d ∧ F2 51 3 = u) (f4 : ∀ i, F2 52 i = if i = z then F 2 13 else F 52 i) (g1 : ∀ p i, p ≠ 175 → p ≠ 176 → p ≠ 204 → G2 p i = G p i) (g2 : G2 175 56 = d ∧ G2 175 57 = u) (g3 : ∀ x, x < 103 → G2 176 x = G 204 (103 * k + x) ∧ G2 204 (103 * k + x) = G 176 x) (g4 : ∀ i, (i < 103 * k ∨ 103 * k + 103 ≤ i) → G2 204 i = G 204 i) : hs F2 G2 nn L E ∧ sc F2 (F2 2 13) (G2 176) nn L E := by
  obtain ⟨⟨a1, a2, a3⟩, ⟨b1, b2, b3, b4⟩, c1, d1, e1⟩ := hh
  have hz20 : z < 20 := by rw [hz]; exact Nat.mod_lt _ (by decide)
  have mv : ∀ {q X}, sc F q X nn L E → S0 q ∨ q = 165 ∨ q = 170 → sc F2 q X nn L E := fun {q X} hx hq => sc_congr hx hL (fun i _ => f1 q i (by unfold S0 at hq; omega) (by unfold S0 at hq; omega) (by unfold S0 at hq; omega)) (fun i _ => ⟨f1 _ i (by unfold S0 at hq; omega) (by unfold S0 at hq; omega) (by unfold S0 at hq; omega), f1 _ i (by unfold S0 at hq; omega) (by unfold S0 at hq; omega) (by unfold S0 at hq; omega), f1 _ i (by unfold S0 at hq; omega) (by unfold S0 at hq; omega) (by unfold S0 at hq; omega), f1 _ i (by unfold S0 at hq; omega) (by unfold S0 at hq; omega) (by unfold S0 at hq; omega)⟩) (fun _ _ => rfl)
  refine ⟨⟨⟨?_, fun i hi => ?_, fun i j hi hj he => ?_⟩, ?_, fun i hi => ?_, ?_, fun b hb => ?_⟩, ?_⟩
  · rw [f2]; exact (a2 z hz20).1
  · rw [f2, f4]
    by_cases e : i = z
    · rw [if_pos e]; exact ⟨a1, fun w => (a2 z hz20).2 w.symm⟩
    · rw [if_neg e]; exact ⟨(a2 i hi).1, fun w => e (a3 i z hi hz20 w)⟩
  · rw [f4, f4] at he
    by_cases ei : i = z
    · by_cases ej : j = z
      · omega
      · rw [if_pos ei, if_neg ej] at he; exact absurd he.symm (a2 j hj).2
    · by_cases ej : j = z
      · rw [if_neg ei, if_pos ej] at he; exact absurd he (a2 i hi).2
      · rw [if_neg ei, if_neg ej] at he; exact a3 i j hi hj he
  · rw [f3.1, f3.2.1, f3.2.2, g2.1, g2.2]; exact ⟨b1, by omega, rfl, rfl⟩
  · rw [f3.2.1, f3.2.2, hdu] at hi
    rw [f3.1, f4]
    by_cases e : i = k
    · subst e
      rw [if_pos hz.symm]
      exact mv (sc_congr hs0 hL (fun _ _ => rfl) (fun _ _ => ⟨rfl, rfl, rfl, rfl⟩) (fun x hx => (g3 x (by omega)).2)) (Or.inl a1)
    · rw [if_neg (by omega)]
      refine mv (sc_congr (c1 i hi) hL (fun _ _ => rfl) (fun _ _ => ⟨rfl, rfl, rfl, rfl⟩) (fun x hx => g4 _ (by omega))) (Or.inl (a2 _ (Nat.mod_lt _ (by decide))).1)
  · rw [f1 158 0 (by decide) (by decide) (by decide), f1 158 1 (by decide) (by decide) (by decide)]; exact d1
  · obtain ⟨t1, t2⟩ := e1 b hb
    rw [f1 158 b (by decide) (by decide) (by decide), f1 159 b (by decide) (by decide) (by decide), g1 206 b (by decide) (by decide) (by decide)]
    refine ⟨t1, fun w => ?_⟩
    have hb158 : F 158 b = 165 ∨ F 158 b = 170 := by
      have : b = 0 ∨ b = 1 := by omega
      rcases this with e | e
      · subst e; exact Or.inl d1.1
      · subst e; exact Or.inr d1.2
    exact mv (sc_congr (t2 w) hL (fun _ _ => rfl) (fun _ _ => ⟨rfl, rfl, rfl, rfl⟩) (fun x _ => g1 205 _ (by decide) (by decide) (by decide))) (Or.inr hb158)
  · rw [f2, hz]
    exact mv (sc_congr (c1 k hk) hL (fun _ _ => rfl) (fun _ _ => ⟨rfl, rfl, rfl, rfl⟩) (fun x hx => (g3 x (by omega)).1)) (Or.inl (a2 _ (Nat.mod_lt _ (by decide))).1)
/-- what undo, redo leave -/
def unF (F F' : fx_F) : Prop := (∀ p i, p ≠ 2 → p ≠ 51 → p ≠ 52 → F' p i = F p i) ∧ ∀ i, i ≠ 13 → F' 2 i = F 2 i
def unG (G G' : fx_F) : Prop := (∀ p i, p ≠ 175 → p ≠ 176 → p ≠ 204 → G' p i = G p i) ∧ ∀ i, i ≠ 56 → i ≠ 57 → G' 175 i = G 175 i
theorem s_undo2 (hN : nt_ok nn L E) (hh : hs F G nn L E) (hs0 : sc F (F 2 13) (G 176) nn L E) (h : Cl k_T_undo [(2, 2)] F v F') (h2 : Cl k_M_undo [(2, 175)] G v2 G') : v = v2 ∧ hs F' G' nn L E ∧ sc F' (F' 2 13) (G' 176) nn L E ∧ unF F F' ∧ unG G G' := by
  have hL := hN.2.1
  obtain ⟨nF, h⟩ := c_T_undo h
  have Q := q_T_undo_0 h
  obtain ⟨nG, h2⟩ := c_M_undo h2
  have QG := q_M_undo_0 h2
  have hb := hh.2.1
  obtain ⟨b1, b2, b3, b4⟩ := hb
  rw [b3] at QG
  by_cases e : F 51 2 = 0
  · obtain ⟨x1, x2⟩ := Q.2 e
    obtain ⟨y1, y2⟩ := QG.2 e
    subst x2
    subst y2
    exact ⟨x1.trans y1.symm, hh, hs0, ⟨fun _ _ _ _ _ => rfl, fun _ _ => rfl⟩, ⟨fun _ _ _ _ _ => rfl, fun _ _ _ => rfl⟩⟩
  · obtain ⟨n1, F1, c1, x1, x2⟩ := Q.1 e
    obtain ⟨G1, d1, y1, y2⟩ := QG.1 e
    clear Q QG
    obtain ⟨m1, c1⟩ := c_Hi_stepBack c1
    obtain ⟨z1, z2⟩ := q_Hi_stepBack_0 c1
    cases z1
    subst y2
    rw [b_sub (show 1 ≤ F 51 2 by omega) (show F 51 2 < 4294967296 by omega), b_add (show F 51 1 + (F 51 2 - 1) < 4294967296 by omega), b_rem (show F 51 1 + (F 51 2 - 1) < 2147483648 by omega) (by decide) (by decide), b_add (show F 51 3 + 1 < 4294967296 by omega)] at z2
    rw [b_sub (show 1 ≤ F 51 2 by omega) (show F 51 2 < 4294967296 by omega), b_add (show F 51 1 + (F 51 2 - 1) < 4294967296 by omega), b_rem (show F 51 1 + (F 51 2 - 1) < 2147483648 by omega) (by decide) (by decide)] at x2
    rw [b4, b_sub (show 1 ≤ F 51 2 by omega) (show F 51 2 < 4294967296 by omega), b_add (show F 51 3 + 1 < 4294967296 by omega)] at d1
    obtain ⟨-, r2, r3, r4⟩ := s_swapAll (k := F 51 2 - 1) (by omega) (by rw [fu_i (by decide), fu_same]) d1
    subst z2
    subst x2
    have g0 : ∀ p i, p ≠ 175 → p ≠ 176 → p ≠ 204 → G' p i = G p i := fun p i h1 h2 h3 => by
      rw [r2 p i (by simp; exact ⟨h2, h3⟩), fu_p h1, fu_p h1]
    have k := hs_swap (k := F 51 2 - 1) (d := F 51 2 - 1) (u := F 51 3 + 1) (z := (F 51 1 + (F 51 2 - 1)) % 20) (F2 := fu (fu (fu (fu F 51 2 (F 51 2 - 1)) 51 3 (F 51 3 + 1)) 52 ((F 51 1 + (F 51 2 - 1)) % 20) (F 2 13)) 2 13 (F 52 ((F 51 1 + (F 51 2 - 1)) % 20))) (G2 := G') hL hh hs0 (by omega) rfl (by omega) (fun p i h1 h2 h3 => by rw [fu_p h1, fu_p h3, fu_p h2, fu_p h2]) fu_same ⟨by rw [fu_p (by decide), fu_p (by decide), fu_i (by decide), fu_i (by decide)], by rw [fu_p (by decide), fu_p (by decide), fu_i (by decide), fu_same], by rw [fu_p (by decide), fu_p (by decide), fu_same]⟩ (fun i => by
      rw [fu_p (by decide), fu_if]
      by_cases w : i = (F 51 1 + (F 51 2 - 1)) % 20
      · rw [if_pos ⟨rfl, w⟩, if_pos w]
      · rw [if_neg (fun y => w y.2), if_neg w, fu_p (by decide), fu_p (by decide)]) g0 ⟨by rw [r2 175 _ (by decide), fu_i (by decide), fu_same], by rw [r2 175 _ (by decide), fu_same]⟩ (fun x hx => by
      have := r3 x hx
      rw [fu_p (by decide), fu_p (by decide), fu_p (by decide), fu_p (by decide)] at this
      exact this) (fun i hi => by rw [r4 i hi, fu_p (by decide), fu_p (by decide)])
    exact ⟨x1.trans y1.symm, k.1, k.2, ⟨fun p i h1 h2 h3 => by rw [fu_p h1, fu_p h3, fu_p h2, fu_p h2], fun i hi => by rw [fu_i hi, fu_p (by decide), fu_p (by decide), fu_p (by decide)]⟩, ⟨g0, fun i h1 h2 => by rw [r2 175 _ (by decide), fu_i h2, fu_i h1]⟩⟩
theorem s_redo2 (hN : nt_ok nn L E) (hh : hs F G nn L E) (hs0 : sc F (F 2 13) (G 176) nn L E) (h : Cl k_T_redo [(2, 2)] F v F') (h2 : Cl k_M_redo [(2, 175)] G v2 G') : v = v2 ∧ hs F' G' nn L E ∧ sc F' (F' 2 13) (G' 176) nn L E ∧ unF F F' ∧ unG G G' := by
  have hL := hN.2.1
  obtain ⟨nF, h⟩ := c_T_redo h
  have Q := q_T_redo_0 h
  obtain ⟨nG, h2⟩ := c_M_redo h2
  have QG := q_M_redo_0 h2
  have hb := hh.2.1
  obtain ⟨b1, b2, b3, b4⟩ := hb
  rw [b4] at QG
  by_cases e : F 51 3 = 0
  · obtain ⟨x1, x2⟩ := Q.2 e
    obtain ⟨y1, y2⟩ := QG.2 e
    subst x2
    subst y2
    exact ⟨x1.trans y1.symm, hh, hs0, ⟨fun _ _ _ _ _ => rfl, fun _ _ => rfl⟩, ⟨fun _ _ _ _ _ => rfl, fun _ _ _ => rfl⟩⟩
  · obtain ⟨n1, F1, c1, x1, x2⟩ := Q.1 e
    obtain ⟨G1, d1, y1, y2⟩ := QG.1 e
    clear Q QG
    obtain ⟨m1, c1⟩ := c_Hi_stepOn c1
    obtain ⟨z1, z2⟩ := q_Hi_stepOn_0 c1
    cases z1
    rw [b_add (show F 51 1 + F 51 2 < 4294967296 by omega), b_rem (show F 51 1 + F 51 2 < 2147483648 by omega) (by decide) (by decide), b_add (show F 51 2 + 1 < 4294967296 by omega), b_sub (show 1 ≤ F 51 3 by omega) (show F 51 3 < 4294967296 by omega)] at z2
    rw [b_add (show F 51 1 + F 51 2 < 4294967296 by omega), b_rem (show F 51 1 + F 51 2 < 2147483648 by omega) (by decide) (by decide)] at x2
    obtain ⟨-, r2, r3, r4⟩ := s_swapAll (k := F 51 2) (by omega) b3 d1
    rw [r2 175 _ (by decide), r2 175 _ (by decide), b3, b4, b_add (show F 51 2 + 1 < 4294967296 by omega), b_sub (show 1 ≤ F 51 3 by omega) (show F 51 3 < 4294967296 by omega)] at y2
    subst z2
    subst x2
    have g0 : ∀ p i, p ≠ 175 → p ≠ 176 → p ≠ 204 → G' p i = G p i := fun p i h1 h2 h3 => by
      rw [y2, fu_p h1, fu_p h1, r2 p i (by simp; exact ⟨h2, h3⟩)]
    have k := hs_swap (k := F 51 2) (d := F 51 2 + 1) (u := F 51 3 - 1) (z := (F 51 1 + F 51 2) % 20) (F2 := fu (fu (fu (fu F 52 ((F 51 1 + F 51 2) % 20) (F 2 13)) 51 2 (F 51 2 + 1)) 51 3 (F 51 3 - 1)) 2 13 (F 52 ((F 51 1 + F 51 2) % 20))) (G2 := G') hL hh hs0 (by omega) rfl (by omega) (fun p i h1 h2 h3 => by rw [fu_p h1, fu_p h2, fu_p h2, fu_p h3]) fu_same ⟨by rw [fu_p (by decide), fu_i (by decide), fu_i (by decide), fu_p (by decide)], by rw [fu_p (by decide), fu_i (by decide), fu_same], by rw [fu_p (by decide), fu_same]⟩ (fun i => by
      rw [fu_p (by decide), fu_p (by decide), fu_p (by decide), fu_if]
      by_cases w : i = (F 51 1 + F 51 2) % 20
      · rw [if_pos ⟨rfl, w⟩, if_pos w]
      · rw [if_neg (fun y => w y.2), if_neg w]) g0 ⟨by rw [y2, fu_i (by decide), fu_same], by rw [y2, fu_same]⟩ (fun x hx => by
      rw [y2, fu_p (by decide), fu_p (by decide), fu_p (by decide), fu_p (by decide)]
      exact r3 x hx) (fun i hi => by rw [y2, fu_p (by decide), fu_p (by decide)]; exact r4 i hi)
    exact ⟨x1.trans y1.symm, k.1, k.2, ⟨fun p i h1 h2 h3 => by rw [fu_p h1, fu_p h2, fu_p h2, fu_p h3], fun i hi => by rw [fu_i hi, fu_p (by decide), fu_p (by decide), fu_p (by decide)]⟩, ⟨g0, fun i h1 h2 => by rw [y2, fu_i h2, fu_i h1, r2 175 _ (by decide)]⟩⟩
/-- how many packets there are -/
def npk (F : fx_F) (q : Nat) : Nat := cnt (fun j => !(Nat.beq (F (q + 1) j) 4294967295)) 12
theorem s_ccount {q : Nat} (h : Cl k_St_countPackets [(2, q)] F v F') : F' = F ∧ v = (0, npk F q) := by
  obtain ⟨n, h⟩ := c_St_countPackets h
  obtain ⟨m, hm2, hR⟩ := q_St_countPackets_0 h
  generalize hp : (fun j => !(Nat.beq (F (q + 1) j) 4294967295)) = p
  have hpt : ∀ j, p j = true ↔ F (q + 1) j ≠ 4294967295 := fun j => by
    rw [← hp]
    show (!(Nat.beq (F (q + 1) j) 4294967295)) = true ↔ _
    rw [Bool.not_eq_true', ← Bool.not_eq_true, rx_beq]
  have lp : ∀ (n j : Nat), Rn n k_St_countPackets 4 [(2, q), (0, cnt p j), (0, j)] [] F v F' → j ≤ 12 → F' = F ∧ v = (0, cnt p 12) := by
    intro n
    induction n using Nat.strongRecOn with
    | ind n ih =>
      intro j h hj
      have hc := cnt_le p j
      have Q := q_St_countPackets_4 h
      rcases Nat.lt_or_ge j 12 with hlt | hge
      · replace Q := Q.2 (by rw [b_lt (by clear Q; omega) (by decide)]; exact hlt)
        rw [b_add (show j + 1 < 4294967296 by clear Q; omega), b_add (show cnt p j + 1 < 4294967296 by clear Q; omega)] at Q
        by_cases e : F (q + 1) j = 4294967295
        · obtain ⟨m, hm, hR⟩ := Q.1 e
          exact ih m hm (j + 1) (by
            rw [show cnt p (j + 1) = cnt p j by show cnt p j + (if p j then 1 else 0) = _; rw [if_neg (fun z => (hpt j).mp z e)]; rfl]
            exact hR) hlt
        · obtain ⟨m, hm, hR⟩ := Q.2 e
          exact ih m hm (j + 1) (by
            rw [show cnt p (j + 1) = cnt p j + 1 by show cnt p j + (if p j then 1 else 0) = _; rw [if_pos ((hpt j).mpr e)]]
            exact hR) hlt
      · obtain ⟨x1, x2⟩ := Q.1 (by rw [b_le (by decide) (by clear Q; omega)]; exact hge)
        clear Q
        have : j = 12 := by omega
        subst this
        exact ⟨x2, x1⟩
  have := lp m 0 hR (Nat.zero_le _)
  unfold npk
  rw [hp]
  exact this
theorem s_mcount {q : Nat} (hnn : nn ≤ 10) (hs0 : ∀ j, j < 12 → pk F q (G 176) nn L j) (h : Cl k_M_packetsNow [(2, 175)] G v G') : G' = G ∧ v = (0, npk F q) := by
  obtain ⟨n, h⟩ := c_M_packetsNow h
  obtain ⟨m, hm2, hR⟩ := q_M_packetsNow_0 h
  generalize hp : (fun j => !(Nat.beq (F (q + 1) j) 4294967295)) = p
  have hpt : ∀ j, p j = true ↔ F (q + 1) j ≠ 4294967295 := fun j => by
    rw [← hp]
    show (!(Nat.beq (F (q + 1) j) 4294967295)) = true ↔ _
    rw [Bool.not_eq_true', ← Bool.not_eq_true, rx_beq]
  have lp : ∀ (n j : Nat), Rn n k_M_packetsNow 4 [(2, 175), (0, cnt p j), (0, j)] [] G v G' → j ≤ 12 → G' = G ∧ v = (0, cnt p 12) := by
    intro n
    induction n using Nat.strongRecOn with
    | ind n ih =>
      intro j h hj
      have hc := cnt_le p j
      have Q := q_M_packetsNow_4 h
      rcases Nat.lt_or_ge j 12 with hlt | hge
      · obtain ⟨m, hm, hR⟩ := Q.2 (by rw [b_lt (by clear Q; omega) (by decide)]; exact hlt)
        clear Q
        rw [b_add (show j + 1 < 4294967296 by omega), b_add (show 41 + j < 4294967296 by omega)] at hR
        have e : i_add (cnt p j) (G 176 (41 + j)) = cnt p (j + 1) := by
          show _ = cnt p j + (if p j then 1 else 0)
          rcases hs0 j hlt with ⟨a, b⟩ | ⟨a, _, b, _⟩
          · rw [b, if_neg (fun z => (hpt j).mp z a), b_add (by omega)]
          · rw [a, if_pos ((hpt j).mpr (by omega)), b_add (by omega)]
        rw [e] at hR
        exact ih m hm (j + 1) hR hlt
      · obtain ⟨x1, x2⟩ := Q.1 (by rw [b_le (by decide) (by clear Q; omega)]; exact hge)
        clear Q
        have : j = 12 := by omega
        subst this
        exact ⟨x2, x1⟩
  have := lp m 0 hR (Nat.zero_le _)
  unfold npk
  rw [hp]
  exact this
end BACK
end
section
/-! The relation that all calls keep -/
/-- scratch of the class, of the reference -/
def qF (p : Nat) : Prop := (19 ≤ p ∧ p ≤ 50) ∨ (153 ≤ p ∧ p ≤ 157)
def qG (p : Nat) : Prop := 186 ≤ p ∧ p ≤ 203
def lr (F G : fx_F) (nn L : Nat) (E C : Nat → Nat) (N R : Nat) : Prop := (nt_ok nn L E ∧ cd_ok C N ∧ (N ≠ 0 → 0 < hgt C N) ∧ R < 2147483648) ∧ (cn F nn L E ∧ ocl F nn L E ∧ cc F C N ∧ F 3 3 = R) ∧ (mn G nn L E ∧ mcc G C N ∧ G 180 (G 175 9) = R) ∧ (hs F G nn L E ∧ sc F (F 2 13) (G 176) nn L E) ∧ rcI F nn L E 24 ∧ rcI F nn L E 32
/-- what a call leaves as it is -/
def sF (F F' : fx_F) : Prop := ∀ p i, (175 ≤ p ∨ (3 ≤ p ∧ p ≤ 18)) → F' p i = F p i
def sG (G G' : fx_F) : Prop := (∀ p i, (p < 175 ∨ (177 ≤ p ∧ p ≤ 185)) → G' p i = G p i) ∧ ∀ i, i < 40 → G' 175 i = G 175 i
section REL
variable {nn L N R : Nat} {E C : Nat → Nat} {v v2 : fx_V} {F F' F1 G G' G1 : fx_F}
theorem rcI.eq {p : Nat} (h : rcI F nn L E p) (he : ∀ t i, t ≤ 5 → F' (p + t) i = F (p + t) i) : rcI F' nn L E p := by
  have e0 : ∀ i, F' p i = F p i := fun i => he 0 i (by decide)
  have e1 : ∀ i, F' (p + 1) i = F (p + 1) i := fun i => he 1 i (by decide)
  have e2 : ∀ i, F' (p + 2) i = F (p + 2) i := fun i => he 2 i (by decide)
  have e4 : ∀ i, F' (p + 4) i = F (p + 4) i := fun i => he 4 i (by decide)
  have e5 : ∀ i, F' (p + 5) i = F (p + 5) i := fun i => he 5 i (by decide)
  refine ⟨?_, ?_⟩
  · unfold rci
    simp only [e0, e5, e1]
    exact h.1
  · unfold rct ctb
    simp only [e0, e2, e4]
    exact h.2
theorem sF.rf : sF F F := fun _ _ _ => rfl
theorem sG.rf : sG G G := ⟨fun _ _ _ => rfl, fun _ _ => rfl⟩
theorem cn.eq (h : cn F nn L E) (h3 : ∀ p i, 3 ≤ p → p ≤ 9 → F' p i = F p i) : cn F' nn L E := ⟨(h3 3 0 (by decide) (by decide)).trans h.1, (h3 3 1 (by decide) (by decide)).trans h.2.1, fun c hc => ⟨(h3 4 c (by decide) (by decide)).trans (h.2.2 c hc).1, (h3 5 c (by decide) (by decide)).trans (h.2.2 c hc).2⟩⟩
theorem ocl.eq (h : ocl F nn L E) (h3 : ∀ p i, 3 ≤ p → p ≤ 9 → F' p i = F p i) : ocl F' nn L E := ⟨fun w hw => by rw [h3 6 _ (by decide) (by decide)]; exact h.1 w hw, fun w hw => by
  rw [h3 6 _ (by decide) (by decide), h3 6 _ (by decide) (by decide)]
  exact ⟨(h.2 w hw).1, fun c hc he => by rw [h3 7 _ (by decide) (by decide)]; exact (h.2 w hw).2 c hc he⟩⟩
theorem cc.eq (h : cc F C N) (h3 : ∀ p i, 3 ≤ p → p ≤ 9 → F' p i = F p i) : cc F' C N := ⟨(h3 3 5 (by decide) (by decide)).trans h.1, fun k hk => by
  rw [h3 8 _ (by decide) (by decide), h3 9 _ (by decide) (by decide)]; exact h.2 k hk⟩
theorem mn.eq (h : mn G nn L E) (h9 : G' 175 9 = G 175 9) (h3 : ∀ p i, 177 ≤ p → p ≤ 185 → G' p i = G p i) : mn G' nn L E := by
  unfold mn
  rw [h9, h3 177 _ (by decide) (by decide), h3 178 _ (by decide) (by decide)]
  exact ⟨h.1, h.2.1, h.2.2.1, fun j hj => by rw [h3 183 _ (by decide) (by decide)]; exact h.2.2.2 j hj⟩
theorem mcc.eq (h : mcc G C N) (h9 : G' 175 9 = G 175 9) (h3 : ∀ p i, 177 ≤ p → p ≤ 185 → G' p i = G p i) : mcc G' C N := by
  unfold mcc
  rw [h9, h3 182 _ (by decide) (by decide)]
  exact ⟨h.1, fun k hk => by rw [h3 184 _ (by decide) (by decide)]; exact h.2 k hk⟩
/-- histories: now and scratch may change -/
theorem hs.now {q : Nat} (hL : L ≤ 20) (h : hs F G nn L E) (hq : q = F 2 13) (hF : ∀ p i, ¬ qF p → ¬ (q ≤ p ∧ p ≤ q + 4) → F' p i = F p i) (hG : ∀ p i, ¬ qG p → p ≠ 175 → p ≠ 176 → G' p i = G p i) (hG2 : G' 175 56 = G 175 56 ∧ G' 175 57 = G 175 57) : hs F' G' nn L E := by
  obtain ⟨⟨a1, a2, a3⟩, ⟨b1, b2, b3, b4⟩, c1, d1, e1⟩ := h
  subst hq
  have a1' : 53 ≤ F 2 13 ∧ (F 2 13 + 4 ≤ 152 ∨ 160 ≤ F 2 13) ∧ F 2 13 + 4 ≤ 164 := by unfold S0 at a1; omega
  have k : ∀ p i, p = 2 ∨ p = 51 ∨ p = 52 ∨ p = 158 ∨ p = 159 → F' p i = F p i := fun p i hp => hF p i (by unfold qF; omega) (by omega)
  have mv : ∀ {q X}, sc F q X nn L E → (S0 q ∧ q ≠ F 2 13) ∨ q = 165 ∨ q = 170 → sc F' q X nn L E := fun {q X} hx hq => by
    have hap : ∀ t, t < 5 → ¬ qF (q + t) ∧ ¬ (F 2 13 ≤ q + t ∧ q + t ≤ F 2 13 + 4) := by
      intro t ht
      unfold qF
      rcases hq with ⟨h1, h2⟩ | h1 | h1
      · have := S0_apart h1 a1 h2 t
        have s0 := this 0 ht; have s1 := this 1 ht; have s2 := this 2 ht; have s3 := this 3 ht; have s4 := this 4 ht
        unfold S0 at h1
        omega
      · omega
      · omega
    exact sc_congr hx hL (fun i _ => hF q i (hap 0 (by decide)).1 (hap 0 (by decide)).2) (fun i _ => ⟨hF _ i (hap 1 (by decide)).1 (hap 1 (by decide)).2, hF _ i (hap 2 (by decide)).1 (hap 2 (by decide)).2, hF _ i (hap 3 (by decide)).1 (hap 3 (by decide)).2, hF _ i (hap 4 (by decide)).1 (hap 4 (by decide)).2⟩) (fun _ _ => rfl)
  refine ⟨?_, ?_, fun i hi => ?_, ?_, fun b hb => ?_⟩
  · rw [k 2 13 (by decide)]
    exact ⟨a1, fun i hi => by rw [k 52 i (by decide)]; exact a2 i hi, fun i j hi hj => by rw [k 52 i (by decide), k 52 j (by decide)]; exact a3 i j hi hj⟩
  · rw [k 51 1 (by decide), k 51 2 (by decide), k 51 3 (by decide), hG2.1, hG2.2]; exact ⟨b1, b2, b3, b4⟩
  · rw [k 51 2 (by decide), k 51 3 (by decide)] at hi
    rw [k 51 1 (by decide), k 52 _ (by decide)]
    refine mv (sc_congr (c1 i hi) hL (fun _ _ => rfl) (fun _ _ => ⟨rfl, rfl, rfl, rfl⟩) (fun x _ => hG 204 _ (by unfold qG; omega) (by decide) (by decide))) (Or.inl (a2 _ (Nat.mod_lt _ (by decide))))
  · rw [k 158 0 (by decide), k 158 1 (by decide)]; exact d1
  · obtain ⟨t1, t2⟩ := e1 b hb
    rw [k 158 b (by decide), k 159 b (by decide), hG 206 b (by unfold qG; omega) (by decide) (by decide)]
    refine ⟨t1, fun w => ?_⟩
    have hb158 : F 158 b = 165 ∨ F 158 b = 170 := by
      have : b = 0 ∨ b = 1 := by omega
      rcases this with e | e
      · subst e; exact Or.inl d1.1
      · subst e; exact Or.inr d1.2
    exact mv (sc_congr (t2 w) hL (fun _ _ => rfl) (fun _ _ => ⟨rfl, rfl, rfl, rfl⟩) (fun x _ => hG 205 _ (by unfold qG; omega) (by decide) (by decide))) (Or.inr hb158)
/-- scratch alone is written -/
theorem lr.fr (h : lr F G nn L E C N R) (hF : ∀ p i, ¬ qF p → F' p i = F p i) (ha : rcI F' nn L E 24) (hb : rcI F' nn L E 32) (hG : ∀ p i, ¬ qG p → p ≠ 175 → G' p i = G p i) (hG2 : ∀ i, i < 40 ∨ i = 56 ∨ i = 57 → G' 175 i = G 175 i) : lr F' G' nn L E C N R ∧ sF F F' ∧ sG G G' := by
  obtain ⟨h1, ⟨k1, k2, k3, k4⟩, ⟨m1, m2, m3⟩, ⟨x1, x2⟩, _, _⟩ := h
  have f3 : ∀ p i, 3 ≤ p → p ≤ 9 → F' p i = F p i := fun p i h h2 => hF p i (by unfold qF; omega)
  have g3 : ∀ p i, 177 ≤ p → p ≤ 185 → G' p i = G p i := fun p i h h2 => hG p i (by unfold qG; omega) (by omega)
  have g9 := hG2 9 (Or.inl (by decide))
  have hL := h1.1.2.1
  have e2 : F' 2 13 = F 2 13 := hF 2 13 (by unfold qF; omega)
  have hsk := hs.now (F' := F') (G' := G') hL x1 rfl (fun p i h _ => hF p i h) (fun p i h h2 _ => hG p i h h2) ⟨hG2 56 (by decide), hG2 57 (by decide)⟩
  have hS := x1.1.1
  refine ⟨⟨h1, ⟨k1.eq f3, k2.eq f3, k3.eq f3, (f3 3 3 (by decide) (by decide)).trans k4⟩, ⟨m1.eq g9 g3, m2.eq g9 g3, by rw [g9, g3 180 _ (by decide) (by decide)]; exact m3⟩, ⟨hsk, ?_⟩, ha, hb⟩, fun p i hp => hF p i (by unfold qF; omega), ⟨fun p i hp => hG p i (by unfold qG; omega) (by omega), fun i hi => hG2 i (Or.inl hi)⟩⟩
  rw [e2]
  refine sc_congr x2 hL (fun i _ => hF _ i ?_) (fun i _ => ⟨hF _ i ?_, hF _ i ?_, hF _ i ?_, hF _ i ?_⟩) (fun x _ => hG 176 x (by unfold qG; omega) (by decide))
  all_goals (unfold qF; unfold S0 at hS; omega)
/-- an act: kept, and now changed -/
theorem lr.act (h : lr F G nn L E C N R) (hk : Cl k_Hi_keep [(2, 51), (2, F 2 13)] F v F1) (hk2 : Cl k_M_keepAct [(2, 175)] G v2 G1) (hF : ∀ p i, ¬ qF p → ¬ (F 2 13 ≤ p ∧ p ≤ F 2 13 + 4) → F' p i = F1 p i) (ha : rcI F' nn L E 24) (hb : rcI F' nn L E 32) (hG : ∀ p i, ¬ qG p → p ≠ 175 → p ≠ 176 → G' p i = G1 p i) (hG2 : ∀ i, i < 40 ∨ i = 56 ∨ i = 57 → G' 175 i = G1 175 i) (hsc : sc F' (F 2 13) (G' 176) nn L E) : lr F' G' nn L E C N R ∧ sF F F' ∧ sG G G' := by
  obtain ⟨h1, ⟨k1, k2, k3, k4⟩, ⟨m1, m2, m3⟩, ⟨x1, x2⟩, _, _⟩ := h
  obtain ⟨-, -, y1, y2, y3, y4, y5, y6⟩ := s_keep2 h1.1 x1 x2 hk hk2
  have hL := h1.1.2.1
  have a1 := x1.1.1
  have a1' : 53 ≤ F 2 13 ∧ F 2 13 + 4 ≤ 164 := by unfold S0 at a1; omega
  have f3 : ∀ p i, (175 ≤ p ∨ p ≤ 18) → F' p i = F p i := fun p i hp => by
    rw [hF p i (by unfold qF; omega) (by omega), y4.1 p i (by omega) (by unfold rg; omega)]
  have g3 : ∀ p i, (p < 175 ∨ 177 ≤ p ∧ p ≤ 185) → G' p i = G p i := fun p i hp => by
    rw [hG p i (by unfold qG; omega) (by omega) (by omega), y5 p i (by simp; omega)]
  have g9 : ∀ i, i < 40 → G' 175 i = G 175 i := fun i hi => by rw [hG2 i (Or.inl hi), y6 i (by omega) (by omega)]
  have f3' : ∀ p i, 3 ≤ p → p ≤ 9 → F' p i = F p i := fun p i _ h2 => f3 p i (Or.inr (by omega))
  have g3' : ∀ p i, 177 ≤ p → p ≤ 185 → G' p i = G p i := fun p i h1 h2 => g3 p i (Or.inr ⟨h1, h2⟩)
  have e2 : F' 2 13 = F 2 13 := f3 2 13 (Or.inr (by decide))
  have hsk := hs.now (F' := F') (G' := G') hL y1 (q := F 2 13) y3.symm hF hG ⟨hG2 56 (by decide), hG2 57 (by decide)⟩
  refine ⟨⟨h1, ⟨k1.eq f3', k2.eq f3', k3.eq f3', (f3' 3 3 (by decide) (by decide)).trans k4⟩, ⟨m1.eq (g9 9 (by decide)) g3', m2.eq (g9 9 (by decide)) g3', by rw [g9 9 (by decide), g3' 180 _ (by decide) (by decide)]; exact m3⟩, ⟨hsk, ?_⟩, ha, hb⟩, fun p i hp => f3 p i (by omega), ⟨g3, g9⟩⟩
  rw [e2]; exact hsc
/-- what is there behind the keeping -/
theorem lr.kept (h : lr F G nn L E C N R) (hk : Cl k_Hi_keep [(2, 51), (2, F 2 13)] F v F1) (hk2 : Cl k_M_keepAct [(2, 175)] G v2 G1) : F1 2 13 = F 2 13 ∧ (∀ t i, t < 5 → F1 (F 2 13 + t) i = F (F 2 13 + t) i) ∧ (∀ p i, p ≠ 51 → ¬ rg p → F1 p i = F p i) ∧ fxo [175, 204] G G1 ∧ (∀ i, i ≠ 56 → i ≠ 57 → G1 175 i = G 175 i) ∧ sc F1 (F 2 13) (G1 176) nn L E ∧ rcI F1 nn L E 24 ∧ rcI F1 nn L E 32 := by
  obtain ⟨h1, _, _, ⟨x1, x2⟩, ra, rb⟩ := h
  obtain ⟨-, -, y1, y2, y3, y4, y5, y6⟩ := s_keep2 h1.1 x1 x2 hk hk2
  exact ⟨y3, y4.2, y4.1, y5, y6, y2, ra.eq (fun t i ht => y4.1 _ i (by omega) (by unfold rg; omega)), rb.eq (fun t i ht => y4.1 _ i (by omega) (by unfold rg; omega))⟩
theorem in_y {a k : Nat} (h : a < k) (hk : k ≤ 40) : s_le 0 a ∧ s_lt a k ∧ s_le a (i_sub k 1) := by
  refine ⟨?_, ?_, ?_⟩
  · rw [b_le (by decide) (by omega)]; exact Nat.zero_le _
  · rw [b_lt (by omega) (by omega)]; exact h
  · rw [b_sub (by omega) (by omega), b_le (by omega) (by omega)]; omega
theorem in_n {a k : Nat} (h : ¬ a < k) (ha : a < 4294967296) (hk : k ≤ 40) : s_lt a 0 ∨ (s_le 0 a ∧ s_le k a ∧ s_lt (i_sub k 1) a) := by
  rcases Nat.lt_or_ge a 2147483648 with z | z
  · refine Or.inr ⟨?_, ?_, ?_⟩
    · rw [b_le (by decide) z]; exact Nat.zero_le _
    · rw [b_le (by omega) z]; omega
    · by_cases hk0 : k = 0
      · subst hk0
        rw [b_sub01, b_lt_m z]; trivial
      · rw [b_sub (by omega) (by omega), b_lt (by omega) z]; omega
  · refine Or.inl ?_
    rw [b_neg ha]; exact z
end REL
end
section
/-! cut, mend, turn, orient, on both sides -/
section ACTS
variable {nn L N R : Nat} {E C : Nat → Nat} {v v2 : fx_V} {F F' F1 G G' G1 : fx_F}
theorem sc_set {q : Nat} {X X' : Nat → Nat} (h : sc F q X nn L E) (h0 : F' q 0 = X' 40 ∧ X' 40 < 10 ∧ (X' 40 < nn ∨ nn = 0)) (h3 : F' q 3 = F q 3) (h1 : F' q 1 < 2 ^ L ∧ ∀ l, l < L → X' (20 + l) = ue E (bts (F' q 1)) l) (h2 : F' q 2 < 2 ^ L ∧ ∀ l, l < L → X' l = if (F' q 2).testBit l then 1 else 0) (ha : ∀ t i, 1 ≤ t → t ≤ 4 → F' (q + t) i = F (q + t) i) (hX : ∀ i, 41 ≤ i → i < 102 → X' i = X i) : sc F' q X' nn L E := by
  refine ⟨h0, h1, h2, ?_, fun j hj => ?_⟩
  · rw [h3, hX 101 (by decide) (by decide)]; exact h.2.2.2.1
  · have := h.2.2.2.2 j hj
    unfold pk at *
    rw [ha 1 _ (by decide) (by decide), ha 2 _ (by decide) (by decide), ha 3 _ (by decide) (by decide), ha 4 _ (by decide) (by decide), hX _ (by omega) (by omega), hX _ (by omega) (by omega), hX _ (by omega) (by omega), hX _ (by omega) (by omega), hX _ (by omega) (by omega)]
    exact this
theorem s_mstanding (hL : L ≤ 20) {s : Nat} (hm : mn G nn L E) (hs : ∀ l, l < L → G 176 l = if s.testBit l then 1 else 0) (h : Cl k_M_standing [(2, 175)] G v G') : v = (0, cnt (bts s) L) ∧ G' = G := by
  obtain ⟨n, h⟩ := c_M_standing h
  obtain ⟨m, hm2, hR⟩ := q_M_standing_0 h
  have lp : ∀ (n l : Nat), Rn n k_M_standing 4 [(2, 175), (0, cnt (bts s) l), (0, l)] [] G v G' → l ≤ L → v = (0, cnt (bts s) L) ∧ G' = G := by
    intro n
    induction n using Nat.strongRecOn with
    | ind n ih =>
      intro l h hl
      have hc := cnt_le (bts s) l
      have Q := q_M_standing_4 h
      rw [hm.2.2.1] at Q
      rcases Nat.lt_or_ge l L with hlt | hge
      · replace Q := Q.2 (by rw [b_lt (by clear Q; omega) (by clear Q; omega)]; exact hlt)
        rw [b_add (show l + 1 < 4294967296 by clear Q; omega), b_add0 (show l < 4294967296 by clear Q; omega), b_add (show cnt (bts s) l + 0 < 4294967296 by clear Q; omega), b_add (show cnt (bts s) l + 1 < 4294967296 by clear Q; omega), hs l hlt] at Q
        by_cases e : s.testBit l = true
        · rw [if_pos e] at Q
          obtain ⟨m, hm3, hR⟩ := Q.2 rfl
          exact ih m hm3 (l + 1) (by
            rw [show cnt (bts s) (l + 1) = cnt (bts s) l + 1 by show _ + (if bts s l then 1 else 0) = _; rw [if_pos (show bts s l = true from e)]]
            exact hR) hlt
        · rw [if_neg e] at Q
          obtain ⟨m, hm3, hR⟩ := Q.1 (by decide)
          exact ih m hm3 (l + 1) (by
            rw [show cnt (bts s) (l + 1) = cnt (bts s) l + 0 by show _ + (if bts s l then 1 else 0) = _; rw [if_neg (show ¬ bts s l = true from e)]]
            exact hR) hlt
      · obtain ⟨x1, x2⟩ := Q.1 (by rw [b_le (by clear Q; omega) (by clear Q; omega)]; exact hge)
        clear Q
        have : l = L := by omega
        subst this
        exact ⟨x1, x2⟩
  exact lp m 0 hR (Nat.zero_le _)
theorem s_cbits (hL : L ≤ 20) {x : Nat} (hx : x < 2 ^ L) (h : Cl k_I_bitCount [(0, x)] F v F') : v = (0, cnt (bts x) L) ∧ F' = F := by
  obtain ⟨h1, h2⟩ := s_bitCount (p20 hL hx) h
  exact ⟨by rw [h1, cnt_20 hL hx], h2⟩
/-- the standing links become s' -/
theorem act_s (h : lr F G nn L E C N R) {s a y : Nat} (hk : Cl k_Hi_keep [(2, 51), (2, F 2 13)] F v F1) (hk2 : Cl k_M_keepAct [(2, 175)] G v2 G1) (hs : s < 2 ^ L) (ha : a < L) (hbit : ∀ l, l < L → (if s.testBit l then 1 else 0) = if l = a then y else G 176 l) (hF : F' = fu F1 (F 2 13) 2 s) (hG : G' = fu G1 176 a y) : lr F' G' nn L E C N R ∧ sF F F' ∧ sG G G' := by
  obtain ⟨e2, t1, t2, t3, t4, t5, t6, t7⟩ := h.kept hk hk2
  have hL := h.1.1.2.1
  have hS : S0 (F 2 13) := h.2.2.2.1.1.1.1
  have hS' : 53 ≤ F 2 13 := by unfold S0 at hS; omega
  subst hF
  subst hG
  have g176 : ∀ i, G1 176 i = G 176 i := fun i => t3 176 i (by decide)
  refine h.act hk hk2 (fun p i _ h2 => fu_p (by omega)) (t6.eq (fun t i ht => fu_p (by omega))) (t7.eq (fun t i ht => fu_p (by omega))) (fun p i _ _ h3 => fu_p h3) (fun i _ => fu_p (by decide)) ?_
  refine sc_set t5 ?_ (fu_i (by decide)) ?_ ⟨?_, fun l hl => ?_⟩ (fun t i h1 h2 => fu_p (by omega)) (fun i h1 h2 => fu_i (by omega))
  · rw [fu_i (by decide), fu_i (by omega)]; exact t5.1
  · rw [fu_i (show 1 ≠ 2 by decide)]
    exact ⟨t5.2.1.1, fun l hl => by rw [fu_i (by omega)]; exact t5.2.1.2 l hl⟩
  · rw [fu_same]; exact hs
  · rw [fu_same, hbit l hl]
    by_cases e : l = a
    · subst e; rw [fu_same, if_pos rfl]
    · rw [fu_i e, if_neg e, g176]
theorem o_cut {a : Nat} (ha : a < 4294967296) (h : lr F G nn L E C N R) (hF : Cl k_T_cut [(2, 2), (0, a)] F v F') (hG : Cl k_M_cut [(2, 175), (0, a)] G v2 G') : v = v2 ∧ lr F' G' nn L E C N R ∧ sF F F' ∧ sG G G' := by
  have hL := h.1.1.2.1
  have hs0 := h.2.2.2.1.2
  obtain ⟨nF, hF⟩ := c_T_cut hF
  obtain ⟨nG, hG⟩ := c_M_cut hG
  have Q := q_T_cut_0 hF
  have QG := q_M_cut_0 hG
  rw [h.2.1.1.2.1] at Q
  rw [h.2.2.1.1.2.2.1] at QG
  have no : v = (0, 4294967295) ∧ F' = F → v2 = (0, 4294967295) ∧ G' = G → v = v2 ∧ lr F' G' nn L E C N R ∧ sF F F' ∧ sG G G' := by
    rintro ⟨x1, x2⟩ ⟨y1, y2⟩
    subst x2
    subst y2
    exact ⟨x1.trans y1.symm, h, sF.rf, sG.rf⟩
  by_cases hl : a < L
  · obtain ⟨i1, i2, i3⟩ := in_y hl (show L ≤ 40 by clear Q QG; omega)
    replace Q := (Q.2 i1).2 i2
    replace QG := (QG.2 i1).2 i3
    have hb := sc_lt h.1.1 hs0
    have hX := hs0.2.2.1.2 a hl
    rw [b_bitl (show F (F 2 13) 2 < 2147483648 by clear Q QG; omega) (show a < 32 by clear Q QG; omega)] at Q
    rw [b_add0 (show a < 4294967296 from ha), hX] at QG
    by_cases hbit : (F (F 2 13) 2).testBit a = true
    · rw [if_pos hbit] at Q QG
      obtain ⟨F1, k1, n2, F2, c2, x1, x2⟩ := Q.2 rfl
      obtain ⟨G1, k2, n3, G2, c3, y1, y2⟩ := QG.2 rfl
      clear Q QG
      obtain ⟨e2, t1, t2, t3, t4, t5, t6, t7⟩ := h.kept k1 k2
      have hS : S0 (F 2 13) := h.2.2.2.1.1.1.1
      have hS' : 53 ≤ F 2 13 := by unfold S0 at hS; omega
      have e3 := t1 0 2 (by decide)
      replace e3 : F1 (F 2 13) 2 = F (F 2 13) 2 := e3
      rw [e2, fu_p (show 2 ≠ F 2 13 by omega), e2, fu_same, e3] at c2
      obtain ⟨z1, z2⟩ := b_clr (x := F (F 2 13) 2) (l := a) (by omega) (by omega)
      have hsl : i_and (F (F 2 13) 2) (i_xor (i_shl 1 a) 4294967295) < 2 ^ L := tb_lt (fun i hi => by
        rw [z2, Bool.and_eq_true] at hi
        rcases Nat.lt_or_ge i L with w | w
        · exact w
        · rw [tb_out hs0.2.2.1.1 w] at hi; cases hi.1)
      generalize hss : i_and (F (F 2 13) 2) (i_xor (i_shl 1 a) 4294967295) = s at *
      obtain ⟨w1, w2⟩ := s_cbits hL hsl c2
      have g176 : ∀ i, G1 176 i = G 176 i := fun i => t3 176 i (by decide)
      have hbs : ∀ l, l < L → (if s.testBit l then 1 else 0) = if l = a then 0 else G 176 l := fun l hl2 => by
        rw [z2 l, hs0.2.2.1.2 l hl2]
        by_cases e : l = a
        · subst e; rw [if_pos rfl]; simp
        · rw [if_neg e]
          simp [e]
      have hm1 : mn (fu G1 176 a 0) nn L E := (h.2.2.1.1.eq (t4 9 (by decide) (by decide)) (fun p i h1 h2 => t3 p i (by simp; omega))).eq (fu_p (by decide)) (fun p i h1 h2 => fu_p (by omega))
      obtain ⟨w3, w4⟩ := s_mstanding hL (s := s) hm1 (fun l hl2 => by
        rw [hbs l hl2]
        by_cases e : l = a
        · subst e; rw [fu_same, if_pos rfl]
        · rw [fu_i e, if_neg e, g176]) c3
      cases w1
      cases w3
      refine ⟨x1.trans y1.symm, ?_⟩
      exact act_s h k1 k2 hsl hl hbs (x2.trans w2) (y2.trans w4)
    · rw [if_neg hbit] at Q QG
      exact no (Q.1 (by decide)) (QG.1 (by decide))
  · rcases in_n hl ha (show L ≤ 40 by clear Q QG; omega) with z | ⟨z1, z2, z3⟩
    · exact no (Q.1 z) (QG.1 z)
    · exact no ((Q.2 z1).1 z2) ((QG.2 z1).1 z3)
theorem o_mend {a : Nat} (ha : a < 4294967296) (h : lr F G nn L E C N R) (hF : Cl k_T_mend [(2, 2), (0, a)] F v F') (hG : Cl k_M_mend [(2, 175), (0, a)] G v2 G') : v = v2 ∧ lr F' G' nn L E C N R ∧ sF F F' ∧ sG G G' := by
  have hL := h.1.1.2.1
  have hs0 := h.2.2.2.1.2
  obtain ⟨nF, hF⟩ := c_T_mend hF
  obtain ⟨nG, hG⟩ := c_M_mend hG
  have Q := q_T_mend_0 hF
  have QG := q_M_mend_0 hG
  rw [h.2.1.1.2.1] at Q
  rw [h.2.2.1.1.2.2.1] at QG
  have no : v = (0, 4294967295) ∧ F' = F → v2 = (0, 4294967295) ∧ G' = G → v = v2 ∧ lr F' G' nn L E C N R ∧ sF F F' ∧ sG G G' := by
    rintro ⟨x1, x2⟩ ⟨y1, y2⟩
    subst x2
    subst y2
    exact ⟨x1.trans y1.symm, h, sF.rf, sG.rf⟩
  by_cases hl : a < L
  · obtain ⟨i1, i2, i3⟩ := in_y hl (show L ≤ 40 by clear Q QG; omega)
    replace Q := (Q.2 i1).2 i2
    replace QG := (QG.2 i1).2 i3
    have hb := sc_lt h.1.1 hs0
    have hX := hs0.2.2.1.2 a hl
    rw [b_bitl (show F (F 2 13) 2 < 2147483648 by clear Q QG; omega) (show a < 32 by clear Q QG; omega)] at Q
    rw [b_add0 (show a < 4294967296 from ha), hX] at QG
    by_cases hbit : (F (F 2 13) 2).testBit a = true
    · rw [if_pos hbit] at Q QG
      exact no (Q.2 rfl) (QG.2 rfl)
    · rw [if_neg hbit] at Q QG
      obtain ⟨F1, k1, n2, F2, c2, x1, x2⟩ := Q.1 (by decide)
      obtain ⟨G1, k2, n3, G2, c3, y1, y2⟩ := QG.1 (by decide)
      clear Q QG
      obtain ⟨e2, t1, t2, t3, t4, t5, t6, t7⟩ := h.kept k1 k2
      have hS : S0 (F 2 13) := h.2.2.2.1.1.1.1
      have hS' : 53 ≤ F 2 13 := by unfold S0 at hS; omega
      have e3 := t1 0 2 (by decide)
      replace e3 : F1 (F 2 13) 2 = F (F 2 13) 2 := e3
      have hp : 2 ^ a < 2 ^ L := Nat.pow_lt_pow_right (by decide) hl
      rw [e2, fu_p (show 2 ≠ F 2 13 by omega), e2, fu_same, e3, b_shl1 (show a < 32 by omega), b_or (k := L) (by omega) hs0.2.2.1.1 hp] at c2
      have hsl : F (F 2 13) 2 ||| 2 ^ a < 2 ^ L := Nat.or_lt_two_pow hs0.2.2.1.1 hp
      have z2 : ∀ j, (F (F 2 13) 2 ||| 2 ^ a).testBit j = ((F (F 2 13) 2).testBit j || decide (j = a)) := fun j => tb_or
      generalize hss : F (F 2 13) 2 ||| 2 ^ a = s at *
      obtain ⟨w1, w2⟩ := s_cbits hL hsl c2
      have g176 : ∀ i, G1 176 i = G 176 i := fun i => t3 176 i (by decide)
      have hbs : ∀ l, l < L → (if s.testBit l then 1 else 0) = if l = a then 1 else G 176 l := fun l hl2 => by
        rw [z2 l, hs0.2.2.1.2 l hl2]
        by_cases e : l = a
        · subst e; rw [if_pos rfl]; simp
        · rw [if_neg e]
          simp [e]
      have hm1 : mn (fu G1 176 a 1) nn L E := (h.2.2.1.1.eq (t4 9 (by decide) (by decide)) (fun p i h1 h2 => t3 p i (by simp; omega))).eq (fu_p (by decide)) (fun p i h1 h2 => fu_p (by omega))
      obtain ⟨w3, w4⟩ := s_mstanding hL (s := s) hm1 (fun l hl2 => by
        rw [hbs l hl2]
        by_cases e : l = a
        · subst e; rw [fu_same, if_pos rfl]
        · rw [fu_i e, if_neg e, g176]) c3
      cases w1
      cases w3
      refine ⟨x1.trans y1.symm, ?_⟩
      exact act_s h k1 k2 hsl hl hbs (x2.trans w2) (y2.trans w4)
  · rcases in_n hl ha (show L ≤ 40 by clear Q QG; omega) with z | ⟨z1, z2, z3⟩
    · exact no (Q.1 z) (QG.1 z)
    · exact no ((Q.2 z1).1 z2) ((QG.2 z1).1 z3)
end ACTS
end
section
/-! turn, orient, on both sides -/
section TURN
variable {nn L N R : Nat} {E C : Nat → Nat} {v v2 : fx_V} {F F' F1 G G' G1 : fx_F}
theorem o_turn {a : Nat} (ha : a < 4294967296) (h : lr F G nn L E C N R) (hF : Cl k_T_turn [(2, 2), (0, a)] F v F') (hG : Cl k_M_turn [(2, 175), (0, a)] G v2 G') : v = v2 ∧ lr F' G' nn L E C N R ∧ sF F F' ∧ sG G G' := by
  have hL := h.1.1.2.1
  have hN := h.1.1
  have hs0 := h.2.2.2.1.2
  obtain ⟨nF, hF⟩ := c_T_turn hF
  obtain ⟨nG, hG⟩ := c_M_turn hG
  have Q := q_T_turn_0 hF
  have QG := q_M_turn_0 hG
  rw [h.2.1.1.2.1] at Q
  rw [h.2.2.1.1.2.2.1] at QG
  have no : v = (0, 4294967295) ∧ F' = F → v2 = (0, 4294967295) ∧ G' = G → v = v2 ∧ lr F' G' nn L E C N R ∧ sF F F' ∧ sG G G' := by
    rintro ⟨x1, x2⟩ ⟨y1, y2⟩
    subst x2
    subst y2
    exact ⟨x1.trans y1.symm, h, sF.rf, sG.rf⟩
  by_cases hl : a < L
  · obtain ⟨i1, i2, i3⟩ := in_y hl (show L ≤ 40 by clear Q QG; omega)
    obtain ⟨F1, k1, Q⟩ := (Q.2 i1).2 i2
    obtain ⟨G1, k2, y1, y2⟩ := (QG.2 i1).2 i3
    clear QG
    obtain ⟨e2, t1, t2, t3, t4, t5, t6, t7⟩ := h.kept k1 k2
    have hS : S0 (F 2 13) := h.2.2.2.1.1.1.1
    have hS' : 53 ≤ F 2 13 := by clear Q; unfold S0 at hS; omega
    have hb := sc_lt hN hs0
    have e3 : F1 (F 2 13) 1 = F (F 2 13) 1 := t1 0 1 (by decide)
    have hp : 2 ^ a < 2 ^ L := Nat.pow_lt_pow_right (by decide) hl
    have hup : F (F 2 13) 1 < 2 ^ L := hs0.2.1.1
    have hx : F (F 2 13) 1 ^^^ 2 ^ a < 2 ^ L := Nat.xor_lt_two_pow hup hp
    have hx2 := p20 hL hx
    have hbit : ∀ l, (F (F 2 13) 1 ^^^ 2 ^ a).testBit l = if l = a then !((F (F 2 13) 1).testBit l) else (F (F 2 13) 1).testBit l := fun l => by
      rw [Nat.testBit_xor, Nat.testBit_two_pow]
      by_cases e : l = a
      · subst e; rw [if_pos rfl]; simp
      · rw [if_neg e, decide_eq_false (fun z => e z.symm)]; simp
    rw [e2, e3, b_shl1 (show a < 32 by clear Q; omega), b_xor (k := L) (by clear Q; omega) hup hp] at Q
    rw [fu_p (show 2 ≠ F 2 13 by clear Q; omega), e2, fu_same, fu_p (show 4 ≠ F 2 13 by clear Q; omega), fu_p (show 5 ≠ F 2 13 by clear Q; omega), b_bitl (show F (F 2 13) 1 ^^^ 2 ^ a < 2147483648 by clear Q; omega) (show a < 32 by clear Q; omega), b_mul (show 2 * a < 4294967296 by clear Q; omega)] at Q
    have f4 : F1 4 (2 * a) = E (2 * a) := by
      rw [t2 4 _ (by decide) (by unfold rg; omega)]; exact (h.2.1.1.2.2 (2 * a) (by clear Q; omega)).1
    have f5 : F1 5 (2 * a) = E (2 * a + 1) := by
      rw [t2 5 _ (by decide) (by unfold rg; omega), (h.2.1.1.2.2 (2 * a) (by clear Q; omega)).2]
      congr 1
      unfold nf; rw [if_pos (by clear Q; omega)]
    rw [f4, f5] at Q
    have hm1 : mn G1 nn L E := h.2.2.1.1.eq (t4 9 (by decide) (by decide)) (fun p i h1 h2 => t3 p i (by simp; clear Q; omega))
    have g176 : ∀ i, G1 176 i = G 176 i := fun i => t3 176 i (by decide)
    have m0 := mE (w := 0) hm1 hL hl (by decide)
    have m1 := mE (w := 1) hm1 hL hl (by decide)
    have E0 : E (2 * a) < 10 := by have := (hN.2.2 (2 * a) (by clear Q; omega)).1; have := hN.1; clear Q; omega
    have E1 : E (2 * a + 1) < 10 := by have := (hN.2.2 (2 * a + 1) (by clear Q; omega)).1; have := hN.1; clear Q; omega
    rw [m0, m1, b_add (show 20 + a < 4294967296 by clear Q; omega), g176, hs0.2.1.2 a hl, Nat.add_zero, b_add (show E (2 * a) + E (2 * a + 1) < 4294967296 by clear Q; omega)] at y1 y2
    have hue : i_sub (E (2 * a) + E (2 * a + 1)) (ue E (bts (F (F 2 13) 1)) a) = ue E (bts (F (F 2 13) 1 ^^^ 2 ^ a)) a := by
      unfold ue
      show i_sub _ (if (F (F 2 13) 1).testBit a = true then _ else _) = if (F (F 2 13) 1 ^^^ 2 ^ a).testBit a = true then _ else _
      rw [hbit a, if_pos rfl]
      cases (F (F 2 13) 1).testBit a with
      | true => rw [if_pos rfl, if_neg (by decide), b_sub (by clear Q; omega) (by clear Q; omega)]; clear Q; omega
      | false => rw [if_neg (show ¬ false = true by decide), if_pos (show (!false) = true by decide), b_sub (by clear Q; omega) (by clear Q; omega)]; clear Q; omega
    rw [hue] at y1 y2
    rw [fu_same] at y1
    have hF' : v = (0, ue E (bts (F (F 2 13) 1 ^^^ 2 ^ a)) a) ∧ F' = fu F1 (F 2 13) 1 (F (F 2 13) 1 ^^^ 2 ^ a) := by
      unfold ue
      show v = (0, if (F (F 2 13) 1 ^^^ 2 ^ a).testBit a = true then _ else _) ∧ _
      by_cases w : (F (F 2 13) 1 ^^^ 2 ^ a).testBit a = true
      · rw [if_pos w] at Q ⊢
        exact Q.2 rfl
      · rw [if_neg w] at Q ⊢
        exact Q.1 (by decide)
    clear Q
    obtain ⟨x1, x2⟩ := hF'
    refine ⟨x1.trans y1.symm, ?_⟩
    subst x2
    subst y2
    refine h.act k1 k2 (fun p i _ h2 => fu_p (by omega)) (t6.eq (fun t i ht => fu_p (by omega))) (t7.eq (fun t i ht => fu_p (by omega))) (fun p i _ _ h3 => fu_p h3) (fun i _ => fu_p (by decide)) ?_
    refine sc_set t5 ?_ (fu_i (by decide)) ⟨?_, fun l hl2 => ?_⟩ ?_ (fun t i h1 h2 => fu_p (by omega)) (fun i h1 h2 => fu_i (by omega))
    · rw [fu_i (by decide), fu_i (by omega)]; exact t5.1
    · rw [fu_same]; exact hx
    · rw [fu_same]
      by_cases e : l = a
      · subst e; rw [fu_same]
      · rw [fu_i (by omega), g176, hs0.2.1.2 l hl2]
        unfold ue
        show (if (F (F 2 13) 1).testBit l = true then _ else _) = if (F (F 2 13) 1 ^^^ 2 ^ a).testBit l = true then _ else _
        rw [hbit l, if_neg e]
    · rw [fu_i (show 2 ≠ 1 by decide)]
      exact ⟨t5.2.2.1.1, fun l hl2 => by rw [fu_i (by omega)]; exact t5.2.2.1.2 l hl2⟩
  · rcases in_n hl ha (show L ≤ 40 by clear Q QG; omega) with z | ⟨z1, z2, z3⟩
    · exact no (Q.1 z) (QG.1 z)
    · exact no ((Q.2 z1).1 z2) ((QG.2 z1).1 z3)
theorem s_upEndsBy {r s : Nat} (hN : nt_ok nn L E) (hC : cd_ok C N) (hC2 : N ≠ 0 → 0 < hgt C N) (hr : r < nn ∨ nn = 0) (hr2 : r < 10) (hc : cn F nn L E) (hcc : cc F C N) (hss : s = F (F 2 13) 2) (hs : s < 2147483648) (h : Cl k_T_upEndsBy [(2, 2), (0, r)] F v F') : ∃ x, v = (0, x) ∧ nwb x L E (rk C N (fr L E (bts s) r) (fun u => dgc E (bts s) u (2 * L))) ∧ fxo [20, 21, 22, 23] F F' := by
  obtain ⟨n, h⟩ := c_T_upEndsBy h
  obtain ⟨F1, c1, n2, F2, c2, x1, x2⟩ := q_T_upEndsBy_0 h
  rw [← hss] at c1
  obtain ⟨a1, a2⟩ := s_rate hN hC hC2 hs hr hr2 hc hcc c1
  obtain ⟨x, b1, b2, b3, b4⟩ := s_upEnds hN (hc.keep a1 (by decide) (by decide) (by decide)) (fun u hu => (a2 u hu).2.2) c2
  subst b2
  cases b1
  subst x2
  exact ⟨_, x1, ⟨b3, b4⟩, a1⟩
theorem s_takeOver (hm : mn G nn L E) (hL : L ≤ 20) (h : Cl k_M_takeOver [(2, 175)] G v G') : v = (2, 0) ∧ fxo [176] G G' ∧ (∀ i, i < 20 ∨ 40 ≤ i → G' 176 i = G 176 i) ∧ ∀ l, l < L → G' 176 (20 + l) = G 190 l := by
  obtain ⟨n, h⟩ := c_M_takeOver h
  obtain ⟨m, hm2, hR⟩ := q_M_takeOver_0 h
  have lp : ∀ (n : Nat) (G2 : fx_F) (l : Nat), Rn n k_M_takeOver 2 [(2, 175), (0, l)] [] G2 v G' → l ≤ L → fxo [176] G G2 → (∀ i, i < 20 ∨ 40 ≤ i → G2 176 i = G 176 i) → (∀ j, j < l → G2 176 (20 + j) = G 190 j) → v = (2, 0) ∧ fxo [176] G G' ∧ (∀ i, i < 20 ∨ 40 ≤ i → G' 176 i = G 176 i) ∧ ∀ l, l < L → G' 176 (20 + l) = G 190 l := by
    intro n
    induction n using Nat.strongRecOn with
    | ind n ih =>
      intro G2 l h hl ho hA hB
      have Q := q_M_takeOver_2 h
      rw [ho 178 _ (by decide), ho 175 _ (by decide), hm.2.2.1] at Q
      rcases Nat.lt_or_ge l L with hlt | hge
      · obtain ⟨m, hm, hR⟩ := Q.2 (by rw [b_lt (by clear Q; omega) (by clear Q; omega)]; exact hlt)
        clear Q
        rw [b_add (show l + 1 < 4294967296 by omega), b_add (show 20 + l < 4294967296 by omega), ho 190 _ (by decide)] at hR
        refine ih m hm _ (l + 1) hR hlt (ho.wr (by decide)) (fun i hi => by rw [fu_i (by omega)]; exact hA i hi) (fun j hj => ?_)
        by_cases e : j = l
        · subst e; rw [fu_same]
        · rw [fu_i (by omega)]; exact hB j (by omega)
      · obtain ⟨x1, x2⟩ := Q.1 (by rw [b_le (by clear Q; omega) (by clear Q; omega)]; exact hge)
        clear Q
        subst x2
        exact ⟨x1, ho, hA, fun l hl => hB l (by omega)⟩
  exact lp m G 0 hR (Nat.zero_le _) fxo.rf (fun _ _ => rfl) (fun j hj => absurd hj (Nat.not_lt_zero _))
theorem o_orient {a : Nat} (ha : a < 4294967296) (h : lr F G nn L E C N R) (hF : Cl k_T_orient [(2, 2), (0, a)] F v F') (hG : Cl k_M_orient [(2, 175), (0, a)] G v2 G') : v = v2 ∧ lr F' G' nn L E C N R ∧ sF F F' ∧ sG G G' := by
  have hL := h.1.1.2.1
  have hN := h.1.1
  have hn := hN.1
  have hs0 := h.2.2.2.1.2
  obtain ⟨nF, hF⟩ := c_T_orient hF
  obtain ⟨nG, hG⟩ := c_M_orient hG
  have Q := q_T_orient_0 hF
  have QG := q_M_orient_0 hG
  rw [h.2.1.1.1] at Q
  rw [h.2.2.1.1.2.1] at QG
  have no : v = (0, 4294967295) ∧ F' = F → v2 = (0, 4294967295) ∧ G' = G → v = v2 ∧ lr F' G' nn L E C N R ∧ sF F F' ∧ sG G G' := by
    rintro ⟨x1, x2⟩ ⟨y1, y2⟩
    subst x2
    subst y2
    exact ⟨x1.trans y1.symm, h, sF.rf, sG.rf⟩
  by_cases hl : a < nn
  · obtain ⟨i1, i2, i3⟩ := in_y hl (show nn ≤ 40 by clear Q QG; omega)
    obtain ⟨F1, k1, n2, F2, c2, n3, F3, c3, x1, x2⟩ := (Q.2 i1).2 i2
    obtain ⟨G1, k2, G2, d2, m3, G3, d3, G4, d4, y1, y2⟩ := (QG.2 i1).2 i3
    clear Q QG
    obtain ⟨e2, t1, t2, t3, t4, t5, t6, t7⟩ := h.kept k1 k2
    have hS : S0 (F 2 13) := h.2.2.2.1.1.1.1
    have hS' : 53 ≤ F 2 13 ∧ (F 2 13 + 4 ≤ 152 ∨ 160 ≤ F 2 13) := by unfold S0 at hS; omega
    have hb := sc_lt hN t5
    have g176 : ∀ i, G1 176 i = G 176 i := fun i => t3 176 i (by decide)
    have hcn1 : cn F1 nn L E := h.2.1.1.eq (fun p i h1 h2 => t2 p i (by omega) (by unfold rg; omega))
    have hcc1 : cc F1 C N := h.2.1.2.2.1.eq (fun p i h1 h2 => t2 p i (by omega) (by unfold rg; omega))
    obtain ⟨x, z1, z2, z3⟩ := s_upEndsBy (s := F1 (F 2 13) 2) hN h.1.2.1 h.1.2.2.1 (Or.inl hl) (by omega) hcn1 hcc1 (by rw [e2]) (by omega) c2
    cases z1
    have o2 : ∀ p i, 53 ≤ p → F2 p i = F1 p i := fun p i hp => z3 p i (by simp; omega)
    have e22 : F2 2 13 = F 2 13 := (z3 2 13 (by decide)).trans e2
    rw [e22, o2 _ _ hS'.1, b_xor (k := L) (by omega) z2.1 t5.2.1.1] at c3
    obtain ⟨w1, w2⟩ := s_cbits hL (Nat.xor_lt_two_pow z2.1 t5.2.1.1) c3
    cases w1
    subst w2
    have hm1 : mn G1 nn L E := h.2.2.1.1.eq (t4 9 (by decide) (by decide)) (fun p i h1 h2 => t3 p i (by simp; omega))
    have hmc1 : mcc G1 C N := h.2.2.1.2.1.eq (t4 9 (by decide) (by decide)) (fun p i h1 h2 => t3 p i (by simp; omega))
    obtain ⟨u1, u2, -⟩ := s_orientBy (st := bts (F1 (F 2 13) 2)) hN h.1.2.1 h.1.2.2.1 (Or.inl hl) (by omega) hm1 hmc1 (fun l hl => mst_sc (t5.2.2.1.2 l hl)) d2
    have hm2 : mn G2 nn L E := hm1.keep u1 (by decide) (by decide) (by decide) (by decide)
    have hw2 : ∀ l, l < L → G2 190 l = ue E (bts n2) l := fun l hl => (u2 l hl).trans (nwb_ue z2 hl)
    obtain ⟨w3, w4⟩ := s_flips hN (u := F1 (F 2 13) 1) (nw := n2) hm2 (fun l hl => by rw [u1 176 _ (by decide)]; exact t5.2.1.2 l hl) hw2 d3
    cases w3
    subst w4
    obtain ⟨-, p1, p2, p3⟩ := s_takeOver hm2 hL d4
    have hxx : F1 (F 2 13) 1 ^^^ n2 = n2 ^^^ F1 (F 2 13) 1 := Nat.xor_comm _ _
    rw [hxx] at y1
    refine ⟨x1.trans y1.symm, ?_⟩
    rw [e22, fu_p (show 2 ≠ F 2 13 by omega), e22] at x2
    subst x2
    subst y2
    refine h.act k1 k2 (fun p i h1 h2 => ?_) (t6.eq (fun t i ht => ?_)) (t7.eq (fun t i ht => ?_)) (fun p i h1 h2 h3 => ?_) (fun i _ => ?_) ?_
    · rw [fu_p (by omega), fu_p (by omega), z3 p i (by unfold qF at h1; simp; omega)]
    · rw [fu_p (by omega), fu_p (by omega), z3 _ i (by simp; omega)]
    · rw [fu_p (by omega), fu_p (by omega), z3 _ i (by simp; omega)]
    · rw [fu_p h3, p1 p i (by simpa using h3), u1 p i (by unfold qG at h1; simp; omega)]
    · rw [fu_p (by decide), p1 175 _ (by decide), u1 175 _ (by decide)]
    · refine sc_set t5 ⟨?_, ?_, ?_⟩ ?_ ⟨?_, fun l hl2 => ?_⟩ ⟨?_, fun l hl2 => ?_⟩ (fun t i h1 h2 => ?_) (fun i h1 h2 => ?_)
      · rw [fu_same, fu_same]
      · rw [fu_same]; omega
      · rw [fu_same]; exact Or.inl hl
      · rw [fu_i (by decide), fu_i (by decide), o2 _ _ hS'.1]
      · rw [fu_i (by decide), fu_same]; exact z2.1
      · rw [fu_i (by omega), fu_i (by decide), fu_same, p3 l hl2]; exact hw2 l hl2
      · rw [fu_i (by decide), fu_i (by decide), o2 _ _ hS'.1]; exact t5.2.2.1.1
      · rw [fu_i (show l ≠ 40 by omega), fu_i (show 2 ≠ 0 by decide), fu_i (show 2 ≠ 1 by decide), o2 _ _ hS'.1, p2 l (Or.inl (by omega)), u1 176 _ (by decide)]; exact t5.2.2.1.2 l hl2
      · rw [fu_p (by omega), fu_p (by omega), o2 _ _ (by omega)]
      · rw [fu_i (by omega), p2 i (Or.inr (by omega)), u1 176 _ (by decide)]
  · rcases in_n hl ha (show nn ≤ 40 by clear Q QG; omega) with z | ⟨z1, z2, z3⟩
    · exact no (Q.1 z) (QG.1 z)
    · exact no ((Q.2 z1).1 z2) ((QG.2 z1).1 z3)
end TURN
end
