/-! The reference's lengths -/
section MGOAL
variable {nn L g : Nat} {E : Nat → Nat} {st u : Nat → Bool} {v : fx_V} {F' : fx_F}
/-- what the reference's lengths need -/
def mgi (F : fx_F) (nn L : Nat) (E : Nat → Nat) (st u : Nat → Bool) : Prop := mn F nn L E ∧ (∀ l, l < L → st l = mst F l) ∧ mur F L E u
theorem mgi.keep {F F' : fx_F} (h : mgi F nn L E st u) {S : List Nat} (ho : fxo S F F') (h1 : 175 ∉ S) (h2 : 177 ∉ S) (h3 : 178 ∉ S) (h4 : 183 ∉ S) (h5 : 176 ∉ S) : mgi F' nn L E st u := ⟨h.1.keep ho h1 h2 h3 h4, fun l hl => by rw [h.2.1 l hl]; unfold mst; rw [ho 176 _ h5], fun l hl => (ho 176 _ h5).trans (h.2.2 l hl)⟩
/-- the row after some steps -/
def mgr (L : Nat) (E : Nat → Nat) (st u : Nat → Bool) (g : Nat) (row : Nat → Nat) : Prop := (∀ x, x < 20 → row x ≤ 100000 ∧ (row x < 100000 → gw L E st u g (row x) x)) ∧ row (2 * g) = 0 ∧ row (2 * g + 1) = 0
/-- what a step does -/
def mgs (L : Nat) (E : Nat → Nat) (st u : Nat → Bool) (g c s : Nat) (F F1 : fx_F) (fl fl' : Nat) : Prop := (¬ (st (c / 2) = true ∧ s ≤ bh u c) ∧ F1 = F ∧ fl' = fl) ∨ (st (c / 2) = true ∧ s ≤ bh u c ∧ ((F 193 (20 * g + (2 * E c + s)) ≤ 1 + F 193 (20 * g + (2 * E (nf c) + bh u c)) ∧ F1 = F ∧ fl' = fl) ∨ (1 + F 193 (20 * g + (2 * E (nf c) + bh u c)) < F 193 (20 * g + (2 * E c + s)) ∧ F1 = fu F 193 (20 * g + (2 * E c + s)) (1 + F 193 (20 * g + (2 * E (nf c) + bh u c))) ∧ fl' = 1)))
theorem mg_step (hN : nt_ok nn L E) (hg : g < nn) {n c s fl : Nat} {F : fx_F} (h : Rn n k_M_layGoal 81 [(2, 175), (0, g), (0, fl), (0, c), (0, s), (3, 0)] [] F v F') (hI : mgi F nn L E st u) (hr : ∀ x, x < 20 → F 193 (20 * g + x) ≤ 100000) (hc : c < 2 * L) (hs : s < 2) : ∃ m fl' F1, m < n ∧ Rn m k_M_layGoal 81 [(2, 175), (0, g), (0, fl'), (0, c), (0, s + 1), (3, 0)] [] F1 v F' ∧ mgs L E st u g c s F F1 fl fl' := by
  have hL := hN.2.1
  have hn := hN.1
  obtain ⟨hm, hst, hu⟩ := hI
  have e1 := (hN.2.2 c hc).1
  have e2 := (hN.2.2 _ (nf_lt hc)).1
  have sc : st (c / 2) = true ↔ F 176 (c / 2) = 1 := by rw [hst _ (by omega)]; exact rx_beq
  have up : E (nf c) = F 176 (20 + c / 2) ↔ isup u c = true := by rw [hu (c / 2) (by omega)]; exact isup_ue hN hc
  have bu : (E (nf c) = F 176 (20 + c / 2) → bh u c = 0) ∧ (E (nf c) ≠ F 176 (20 + c / 2) → bh u c = 1) := by
    unfold bh
    refine ⟨fun z => by rw [if_pos (up.mp z)], fun z => by rw [if_neg (fun y => z (up.mpr y))]⟩
  have ix : ∀ x t, x < 10 → t < 2 → i_add (i_add (i_mul 20 g) (i_mul 2 x)) t = 20 * g + (2 * x + t) := fun x t hx ht => by
    rw [b_mul (show 20 * g < 4294967296 by omega), b_mul (show 2 * x < 4294967296 by omega), b_add (show 20 * g + 2 * x < 4294967296 by omega), b_add (show 20 * g + 2 * x + t < 4294967296 by omega), Nat.add_assoc]
  have ad : ∀ x t, x < 10 → t < 2 → i_add 1 (F 193 (20 * g + (2 * x + t))) = 1 + F 193 (20 * g + (2 * x + t)) := fun x t hx ht => by
    have := hr (2 * x + t) (by omega)
    rw [b_add (by omega)]
  have ltx : ∀ x t y w, x < 10 → t < 2 → y < 10 → w < 2 → (s_lt (1 + F 193 (20 * g + (2 * x + t))) (F 193 (20 * g + (2 * y + w))) = (1 + F 193 (20 * g + (2 * x + t)) < F 193 (20 * g + (2 * y + w)))) ∧ (s_le (F 193 (20 * g + (2 * y + w))) (1 + F 193 (20 * g + (2 * x + t))) = (F 193 (20 * g + (2 * y + w)) ≤ 1 + F 193 (20 * g + (2 * x + t)))) := fun x t y w hx ht hy hw => by
    have := hr (2 * x + t) (by omega)
    have := hr (2 * y + w) (by omega)
    exact ⟨b_lt (by omega) (by omega), b_le (by omega) (by omega)⟩
  have e1 : E c < 10 := by omega
  have e2 : E (nf c) < 10 := by omega
  have q := q_M_layGoal_81 h
  have hs1 : s + 1 < 4294967296 := by clear q; omega
  have hd : c < 2147483648 := by clear q; omega
  rw [mTo hm hL hc, mFr hm hL hc, b_div hd (by decide) (by decide), b_add0 (show c / 2 < 4294967296 by clear q; omega), b_add (show 20 + c / 2 < 4294967296 by clear q; omega), b_add hs1, ix _ 1 e2 (by decide), ix _ 0 e2 (by decide), ix _ s e1 hs, ad _ 1 e2 (by decide), ad _ 0 e2 (by decide), (ltx _ 1 _ s e2 (by decide) e1 hs).1, (ltx _ 1 _ s e2 (by decide) e1 hs).2, (ltx _ 0 _ s e2 (by decide) e1 hs).1, (ltx _ 0 _ s e2 (by decide) e1 hs).2] at q
  replace q := q.2 (by rw [b_lt (by clear q; omega) (by decide)]; exact hs)
  by_cases hq : F 176 (c / 2) = 1
  · replace q := q.2 hq
    have hst1 := sc.mpr hq
    have fin : ∀ t, bh u c = t → s ≤ t → ((1 + F 193 (20 * g + (2 * E (nf c) + t)) < F 193 (20 * g + (2 * E c + s)) → ∃ m, m < n ∧ Rn m k_M_layGoal 81 [(2, 175), (0, g), (0, 1), (0, c), (0, s + 1), (3, 0)] [] (fu F 193 (20 * g + (2 * E c + s)) (1 + F 193 (20 * g + (2 * E (nf c) + t)))) v F') ∧ (F 193 (20 * g + (2 * E c + s)) ≤ 1 + F 193 (20 * g + (2 * E (nf c) + t)) → ∃ m, m < n ∧ Rn m k_M_layGoal 81 [(2, 175), (0, g), (0, fl), (0, c), (0, s + 1), (3, 0)] [] F v F')) → ∃ m fl' F1, m < n ∧ Rn m k_M_layGoal 81 [(2, 175), (0, g), (0, fl'), (0, c), (0, s + 1), (3, 0)] [] F1 v F' ∧ mgs L E st u g c s F F1 fl fl' := by
      clear q
      intro t ht hst2 q
      rcases Nat.lt_or_ge (1 + F 193 (20 * g + (2 * E (nf c) + t))) (F 193 (20 * g + (2 * E c + s))) with z | z
      · obtain ⟨m, hm, hR⟩ := q.1 z
        refine ⟨m, 1, _, hm, hR, Or.inr ⟨hst1, by rw [ht]; exact hst2, Or.inr ?_⟩⟩
        rw [ht]; exact ⟨z, rfl, rfl⟩
      · obtain ⟨m, hm, hR⟩ := q.2 z
        refine ⟨m, fl, _, hm, hR, Or.inr ⟨hst1, by rw [ht]; exact hst2, Or.inl ?_⟩⟩
        rw [ht]; exact ⟨z, rfl, rfl⟩
    by_cases hup : E (nf c) = F 176 (20 + c / 2)
    · by_cases h0 : s = 0
      · exact fin 0 (bu.1 hup) (by clear q; omega) (((q.1 h0).2 hup).2 (by clear q; omega))
      · obtain ⟨m, hm, hR⟩ := (q.2 h0).2 hup
        clear q
        exact ⟨m, fl, F, hm, hR, Or.inl ⟨fun z => by have := z.2; rw [bu.1 hup] at this; omega, rfl, rfl⟩⟩
    · by_cases h0 : s = 0
      · exact fin 1 (bu.2 hup) (by clear q; omega) (((q.1 h0).1 hup).2 (by clear q; omega))
      · exact fin 1 (bu.2 hup) (by clear q; omega) ((((q.2 h0).1 hup).1 hup).1 (by clear q; omega))
  · obtain ⟨m, hm, hR⟩ := q.1 hq
    exact ⟨m, fl, F, hm, hR, Or.inl ⟨fun z => hq (sc.mp z.1), rfl, rfl⟩⟩
/-- a row of lengths -/
def mrow (nn L : Nat) (E : Nat → Nat) (st u : Nat → Bool) (g : Nat) (row : Nat → Nat) : Prop := ∀ x, x < 2 * nn → row x ≤ 100000 ∧ (row x < 100000 → gd L E st u g (row x) x) ∧ ∀ d, gd L E st u g d x → row x = d
def mgo (F F' : fx_F) (g : Nat) : Prop := fxo [193] F F' ∧ ∀ j, (j < 20 * g ∨ 20 * g + 20 ≤ j) → F' 193 j = F 193 j
theorem mgo.rf {F : fx_F} : mgo F F g := ⟨fxo.rf, fun _ _ => rfl⟩
theorem mgo.wr {F F1 : fx_F} {x v : Nat} (hx : x < 20) (h : mgo F F1 g) : mgo F (fu F1 193 (20 * g + x) v) g := ⟨h.1.wr List.mem_cons_self, fun j hj => by rw [fu_i (by omega)]; exact h.2 j hj⟩
theorem s_layGoal (hN : nt_ok nn L E) (hg : g < nn) {F : fx_F} (hI : mgi F nn L E st u) (h : Cl k_M_layGoal [(2, 175), (0, g)] F v F') : v = (2, 0) ∧ mgo F F' g ∧ mrow nn L E st u g (fun x => F' 193 (20 * g + x)) := by
  obtain ⟨n, h⟩ := c_M_layGoal h
  obtain ⟨m, hm2, hR⟩ := q_M_layGoal_0 h
  have hL := hN.2.1
  have hn := hN.1
  have kp : ∀ F2 : fx_F, mgo F F2 g → mgi F2 nn L E st u := fun F2 ho => hI.keep ho.1 (by decide) (by decide) (by decide) (by decide) (by decide)
  -- an edge holds
  have hed : ∀ (row : Nat → Nat) (x y c : Nat), gc L E st u c x y → x = 2 * E c + x % 2 ∧ x % 2 ≤ bh u c ∧ y = 2 * E (nf c) + bh u c := fun row x y c h => ⟨by have := h.2.2.1; omega, h.2.2.2.1, h.2.2.2.2⟩
  have stp : ∀ (F2 F3 : fx_F) (c s fl fl' : Nat), c < 2 * L → s < 2 → mgo F F2 g → mgr L E st u g (fun x => F2 193 (20 * g + x)) → mgs L E st u g c s F2 F3 fl fl' → mgo F F3 g ∧ mgr L E st u g (fun x => F3 193 (20 * g + x)) ∧ (fl' = 0 → fl = 0 ∧ F3 = F2 ∧ ∀ x y, gc L E st u c x y → x % 2 = s → F3 193 (20 * g + x) ≤ 1 + F3 193 (20 * g + y)) := by
    intro F2 F3 c s fl fl' hc hs ho hr hS
    have e1 := (hN.2.2 c hc).1
    have e2 := (hN.2.2 _ (nf_lt hc)).1
    have hb := bh_le u c
    rcases hS with ⟨h1, h2, h3⟩ | ⟨h1, h2, ⟨h3, h4, h5⟩ | ⟨h3, h4, h5⟩⟩
    · subst h2
      exact ⟨ho, hr, fun z => ⟨by omega, rfl, fun x y hxy hx => absurd ⟨hxy.2.1, by have := hxy.2.2.2.1; omega⟩ h1⟩⟩
    · subst h4
      refine ⟨ho, hr, fun z => ⟨by omega, rfl, fun x y hxy hx => ?_⟩⟩
      obtain ⟨z1, z2, z3⟩ := hed (fun x => x) x y c hxy
      rw [z1, z3, hx]; exact h3
    · subst h4
      refine ⟨ho.wr (by omega), ⟨fun x hx => ?_, ?_, ?_⟩, fun z => by omega⟩
      · obtain ⟨r1, r2⟩ := hr.1 (2 * E (nf c) + bh u c) (by omega)
        replace r1 : F2 193 (20 * g + (2 * E (nf c) + bh u c)) ≤ 100000 := r1
        replace r2 : F2 193 (20 * g + (2 * E (nf c) + bh u c)) < 100000 → gw L E st u g (F2 193 (20 * g + (2 * E (nf c) + bh u c))) (2 * E (nf c) + bh u c) := r2
        obtain ⟨r3, r4⟩ := hr.1 (2 * E c + s) (by omega)
        replace r3 : F2 193 (20 * g + (2 * E c + s)) ≤ 100000 := r3
        show fu F2 193 (20 * g + (2 * E c + s)) (1 + F2 193 (20 * g + (2 * E (nf c) + bh u c))) 193 (20 * g + x) ≤ 100000 ∧ (fu F2 193 (20 * g + (2 * E c + s)) (1 + F2 193 (20 * g + (2 * E (nf c) + bh u c))) 193 (20 * g + x) < 100000 → gw L E st u g (fu F2 193 (20 * g + (2 * E c + s)) (1 + F2 193 (20 * g + (2 * E (nf c) + bh u c))) 193 (20 * g + x)) x)
        by_cases e : x = 2 * E c + s
        · subst e
          rw [fu_same]
          refine ⟨by omega, fun z => ?_⟩
          rw [Nat.add_comm 1]
          exact ⟨c, 2 * E (nf c) + bh u c, ⟨hc, h1, by omega, by omega, rfl⟩, r2 (by omega)⟩
        · rw [fu_i (by omega)]
          exact hr.1 x hx
      · show fu F2 193 (20 * g + (2 * E c + s)) (1 + F2 193 (20 * g + (2 * E (nf c) + bh u c))) 193 (20 * g + 2 * g) = 0
        have r2 : F2 193 (20 * g + 2 * g) = 0 := hr.2.1
        by_cases e : 2 * g = 2 * E c + s
        · rw [e] at r2; omega
        · rw [fu_i (by omega)]; exact r2
      · show fu F2 193 (20 * g + (2 * E c + s)) (1 + F2 193 (20 * g + (2 * E (nf c) + bh u c))) 193 (20 * g + (2 * g + 1)) = 0
        have r2 : F2 193 (20 * g + (2 * g + 1)) = 0 := hr.2.2
        by_cases e : 2 * g + 1 = 2 * E c + s
        · rw [e] at r2; omega
        · rw [fu_i (by omega)]; exact r2
  -- what all of it gives
  let P : Nat → Prop := fun n => ∀ (F2 : fx_F) (fl : Nat), Rn n k_M_layGoal 62 [(2, 175), (0, g), (0, fl), (3, 0), (3, 0), (3, 0)] [] F2 v F' → mgo F F2 g → mgr L E st u g (fun x => F2 193 (20 * g + x)) → (fl = 0 → ∀ c, c < 2 * L → ∀ x y, gc L E st u c x y → F2 193 (20 * g + x) ≤ 1 + F2 193 (20 * g + y)) → v = (2, 0) ∧ mgo F F' g ∧ mrow nn L E st u g (fun x => F' 193 (20 * g + x))
  have l81 : ∀ (N n : Nat), (∀ m, m < N → P m) → n < N → ∀ (F2 : fx_F) (fl c s : Nat), Rn n k_M_layGoal 81 [(2, 175), (0, g), (0, fl), (0, c), (0, s), (3, 0)] [] F2 v F' → c < 2 * L → s ≤ 2 → mgo F F2 g → mgr L E st u g (fun x => F2 193 (20 * g + x)) → (fl = 0 → (∀ c', c' < c → ∀ x y, gc L E st u c' x y → F2 193 (20 * g + x) ≤ 1 + F2 193 (20 * g + y)) ∧ ∀ x y, gc L E st u c x y → x % 2 < s → F2 193 (20 * g + x) ≤ 1 + F2 193 (20 * g + y)) → ∃ m fl' F3, m < n ∧ Rn m k_M_layGoal 70 [(2, 175), (0, g), (0, fl'), (0, c + 1), (3, 0), (3, 0)] [] F3 v F' ∧ mgo F F3 g ∧ mgr L E st u g (fun x => F3 193 (20 * g + x)) ∧ (fl' = 0 → ∀ c', c' < c + 1 → ∀ x y, gc L E st u c' x y → F3 193 (20 * g + x) ≤ 1 + F3 193 (20 * g + y)) := by
    intro N n hP
    induction n using Nat.strongRecOn with
    | ind n ih =>
      intro hnN F2 fl c s h hc hs ho hr hfl
      by_cases hs2 : s = 2
      · have q := q_M_layGoal_81 h
        obtain ⟨m, hm3, hR⟩ := q.1 (by rw [b_le (by decide) (by clear q; omega)]; clear q; omega)
        clear q
        rw [b_add (show c + 1 < 4294967296 by omega)] at hR
        refine ⟨m, fl, F2, hm3, hR, ho, hr, fun z c' hc' x y hxy => ?_⟩
        by_cases e : c' = c
        · subst e; exact (hfl z).2 x y hxy (by omega)
        · exact (hfl z).1 c' (by omega) x y hxy
      · obtain ⟨m, fl', F3, hm3, hR, hS⟩ := mg_step hN hg h (kp F2 ho) (fun x hx => (hr.1 x hx).1) hc (by omega)
        obtain ⟨k1, k2, k3⟩ := stp F2 F3 c s fl fl' hc (by omega) ho hr hS
        obtain ⟨m', fl2, F4, r1, r2⟩ := ih m hm3 (by omega) F3 fl' c (s + 1) hR hc (by omega) k1 k2 (fun z => by
          obtain ⟨z1, z2, z3⟩ := k3 z
          refine ⟨by rw [z2]; exact (hfl z1).1, fun x y hxy hx => ?_⟩
          by_cases e : x % 2 = s
          · exact z3 x y hxy e
          · rw [z2]; exact (hfl z1).2 x y hxy (by omega))
        exact ⟨m', fl2, F4, by omega, r2⟩
  have l70 : ∀ (N n : Nat), (∀ m, m < N → P m) → n < N → ∀ (F2 : fx_F) (fl c : Nat), Rn n k_M_layGoal 70 [(2, 175), (0, g), (0, fl), (0, c), (3, 0), (3, 0)] [] F2 v F' → c ≤ 2 * L → mgo F F2 g → mgr L E st u g (fun x => F2 193 (20 * g + x)) → (fl = 0 → ∀ c', c' < c → ∀ x y, gc L E st u c' x y → F2 193 (20 * g + x) ≤ 1 + F2 193 (20 * g + y)) → v = (2, 0) ∧ mgo F F' g ∧ mrow nn L E st u g (fun x => F' 193 (20 * g + x)) := by
    intro N n hP
    induction n using Nat.strongRecOn with
    | ind n ih =>
      intro hnN F2 fl c h hc ho hr hfl
      have q := q_M_layGoal_70 h
      rw [(kp F2 ho).1.2.2.1, b_mul (show 2 * L < 4294967296 by clear q; omega)] at q
      rcases Nat.lt_or_ge c (2 * L) with hlt | hge
      · obtain ⟨m, hm3, hR⟩ := q.2 (by rw [b_lt (by clear q; omega) (by clear q; omega)]; exact hlt)
        clear q
        obtain ⟨m', fl', F3, r1, r2, r3, r4, r5⟩ := l81 N m hP (by omega) F2 fl c 0 hR hlt (by omega) ho hr (fun z => ⟨hfl z, fun x y _ hx => absurd hx (Nat.not_lt_zero _)⟩)
        exact ih m' (by omega) (by omega) F3 fl' (c + 1) r2 (by omega) r3 r4 r5
      · obtain ⟨m, hm3, hR⟩ := q.1 (by rw [b_le (by clear q; omega) (by clear q; omega)]; exact hge)
        clear q
        exact hP m (by omega) F2 fl hR ho hr (fun z c' hc' => hfl z c' (by omega))
  have lP : ∀ n, P n := by
    intro n
    induction n using Nat.strongRecOn with
    | ind n ih =>
      intro F2 fl h ho hr hfl
      have q := q_M_layGoal_62 h
      by_cases hz : fl = 0
      · obtain ⟨x1, x2⟩ := q.1 hz
        subst x2
        refine ⟨x1, ho, ?_⟩
        have key : ∀ d x, gw L E st u g d x → F' 193 (20 * g + x) ≤ d := by
          intro d
          induction d with
          | zero =>
            intro x hx
            have hx : x / 2 = g := hx
            have r1 : F' 193 (20 * g + 2 * g) = 0 := hr.2.1
            have r2 : F' 193 (20 * g + (2 * g + 1)) = 0 := hr.2.2
            have hx2 : x = 2 * g ∨ x = 2 * g + 1 := by clear q; omega
            rcases hx2 with hx2 | hx2
            · rw [hx2, r1]; exact Nat.le_refl 0
            · rw [hx2, r2]; exact Nat.le_refl 0
          | succ d ihd =>
            rintro x ⟨c, y, h1, h2⟩
            have a := hfl hz c h1.1 x y h1
            have b := ihd y h2
            clear q
            omega
        intro x hx
        have hx20 : x < 20 := by clear q; omega
        refine ⟨(hr.1 x hx20).1, fun z => ⟨(hr.1 x hx20).2 z, fun e he hw => ?_⟩, fun d hd => ?_⟩
        · have := key e x hw
          have he : e < F' 193 (20 * g + x) := he
          clear q
          omega
        · have a := key d x hd.1
          have b := gd_lt hN hg hd
          clear q
          have c := (hr.1 x hx20).2 (show F' 193 (20 * g + x) < 100000 by omega)
          show F' 193 (20 * g + x) = d
          rcases Nat.lt_or_ge (F' 193 (20 * g + x)) d with z | z
          · exact absurd c (hd.2 _ z)
          · omega
      · obtain ⟨m, hm3, hR⟩ := q.2 hz
        exact l70 n m (fun m hm => ih m hm) hm3 F2 0 0 hR (Nat.zero_le _) ho hr (fun _ c' hc' => absurd hc' (Nat.not_lt_zero _))
  -- the beginning
  have l0 : ∀ (n : Nat) (F2 : fx_F) (i : Nat), Rn n k_M_layGoal 2 [(2, 175), (0, g), (0, i), (3, 0), (3, 0), (3, 0)] [] F2 v F' → i ≤ 10 → mgo F F2 g → (∀ x, x < 2 * i → F2 193 (20 * g + x) = if x / 2 = g then 0 else 100000) → v = (2, 0) ∧ mgo F F' g ∧ mrow nn L E st u g (fun x => F' 193 (20 * g + x)) := by
    intro n
    induction n using Nat.strongRecOn with
    | ind n ih =>
      intro F2 i h hi ho hx
      have q := q_M_layGoal_2 h
      rcases Nat.lt_or_ge i 10 with hlt | hge
      · replace q := q.2 (by rw [b_lt (by clear q; omega) (by decide)]; exact hlt)
        have i0 : i_add (i_add (i_mul 20 g) (i_mul 2 i)) 0 = 20 * g + 2 * i := by
          rw [b_mul (show 20 * g < 4294967296 by omega), b_mul (show 2 * i < 4294967296 by omega), b_add (show 20 * g + 2 * i < 4294967296 by omega), b_add (show 20 * g + 2 * i + 0 < 4294967296 by omega)]; rfl
        have i1 : i_add (i_add (i_mul 20 g) (i_mul 2 i)) 1 = 20 * g + (2 * i + 1) := by
          rw [b_mul (show 20 * g < 4294967296 by omega), b_mul (show 2 * i < 4294967296 by omega), b_add (show 20 * g + 2 * i < 4294967296 by omega), b_add (show 20 * g + 2 * i + 1 < 4294967296 by omega)]; rfl
        rw [b_add (show i + 1 < 4294967296 by clear q; omega), i0, i1] at q
        have fin : ∀ z m, z = (if i = g then 0 else 100000) → m < n → Rn m k_M_layGoal 2 [(2, 175), (0, g), (0, i + 1), (3, 0), (3, 0), (3, 0)] [] (fu (fu F2 193 (20 * g + 2 * i) z) 193 (20 * g + (2 * i + 1)) z) v F' → v = (2, 0) ∧ mgo F F' g ∧ mrow nn L E st u g (fun x => F' 193 (20 * g + x)) := by
          clear q
          intro z m hz hm3 hR
          refine ih m hm3 _ (i + 1) hR (by omega) ((ho.wr (by omega)).wr (by omega)) (fun x hx2 => ?_)
          by_cases e1 : x = 2 * i + 1
          · subst e1; rw [fu_same, hz, show (2 * i + 1) / 2 = i by omega]
          · rw [fu_i (by omega)]
            by_cases e2 : x = 2 * i
            · subst e2; rw [fu_same, hz, show 2 * i / 2 = i by omega]
            · rw [fu_i (by omega)]; exact hx x (by omega)
        by_cases e : i = g
        · obtain ⟨m, hm3, hR⟩ := (q.2 e).2 e
          exact fin 0 m (by rw [if_pos e]) hm3 hR
        · obtain ⟨m, hm3, hR⟩ := (q.1 e).1 e
          exact fin 100000 m (by rw [if_neg e]) hm3 hR
      · obtain ⟨m, hm3, hR⟩ := q.1 (by rw [b_le (by decide) (by clear q; omega)]; exact hge)
        clear q
        have i10 : i = 10 := by omega
        subst i10
        refine lP m F2 1 hR ho ⟨fun x hx2 => ?_, ?_, ?_⟩ (fun z => by cases z)
        · show F2 193 (20 * g + x) ≤ 100000 ∧ (F2 193 (20 * g + x) < 100000 → gw L E st u g (F2 193 (20 * g + x)) x)
          rw [hx x (by omega)]
          by_cases e : x / 2 = g
          · rw [if_pos e]; exact ⟨by decide, fun _ => e⟩
          · rw [if_neg e]; exact ⟨Nat.le_refl _, fun z => absurd z (Nat.lt_irrefl _)⟩
        · show F2 193 (20 * g + 2 * g) = 0
          rw [hx (2 * g) (by omega), if_pos (by omega)]
        · show F2 193 (20 * g + (2 * g + 1)) = 0
          rw [hx (2 * g + 1) (by omega), if_pos (by omega)]
  exact l0 m F 0 hR (Nat.zero_le _) mgo.rf (fun x hx => absurd hx (Nat.not_lt_zero _))
/-- all rows -/
theorem s_layGoals (hN : nt_ok nn L E) {F : fx_F} (hI : mgi F nn L E st u) (h : Cl k_M_layGoals [(2, 175)] F v F') : v = (2, 0) ∧ fxo [193] F F' ∧ ∀ g, g < nn → mrow nn L E st u g (fun x => F' 193 (20 * g + x)) := by
  obtain ⟨n, h⟩ := c_M_layGoals h
  obtain ⟨m, hm2, hR⟩ := q_M_layGoals_0 h
  have hL := hN.2.1
  have hn := hN.1
  have lp : ∀ (n : Nat) (F2 : fx_F) (g : Nat), Rn n k_M_layGoals 2 [(2, 175), (0, g)] [] F2 v F' → g ≤ nn → fxo [193] F F2 → (∀ g', g' < g → mrow nn L E st u g' (fun x => F2 193 (20 * g' + x))) → v = (2, 0) ∧ fxo [193] F F' ∧ ∀ g, g < nn → mrow nn L E st u g (fun x => F' 193 (20 * g + x)) := by
    intro n
    induction n using Nat.strongRecOn with
    | ind n ih =>
      intro F2 g h hg ho hA
      have hI2 := hI.keep ho (by decide) (by decide) (by decide) (by decide) (by decide)
      have q := q_M_layGoals_2 h
      rw [hI2.1.2.1] at q
      rcases Nat.lt_or_ge g nn with hlt | hge
      · obtain ⟨F1, c1, m, hm3, hR⟩ := q.2 (by rw [b_lt (by clear q; omega) (by clear q; omega)]; exact hlt)
        clear q
        rw [b_add (show g + 1 < 4294967296 by omega)] at hR
        obtain ⟨-, y2, y3⟩ := s_layGoal hN hlt hI2 c1
        refine ih m hm3 F1 (g + 1) hR (by omega) (ho.tr y2.1) (fun g' hg' => ?_)
        by_cases e : g' = g
        · subst e; exact y3
        · intro x hx
          have := hA g' (by omega) x hx
          show F1 193 (20 * g' + x) ≤ 100000 ∧ (F1 193 (20 * g' + x) < 100000 → gd L E st u g' (F1 193 (20 * g' + x)) x) ∧ ∀ d, gd L E st u g' d x → F1 193 (20 * g' + x) = d
          rw [y2.2 (20 * g' + x) (by omega)]
          exact this
      · obtain ⟨x1, x2⟩ := q.1 (by rw [b_le (by clear q; omega) (by clear q; omega)]; exact hge)
        clear q
        subst x2
        exact ⟨x1, ho, fun g' hg' => hA g' (by omega)⟩
  exact lp m F 0 hR (Nat.zero_le _) fxo.rf (fun g' hg' => absurd hg' (Nat.not_lt_zero _))
end MGOAL
