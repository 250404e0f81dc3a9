/-- named facts stand on what they say they stand on -/
noncomputable def ax_XD (w : ax_W) (X : ax_X) : Prop := ∀ (x : Nat) (vs : List Nat) (dl md : List (Nat × Nat)) (hp hp' : rx_H), w.2.2[x]? = some dl → dl.all (fun d => !(md.any (fun y => Nat.beq y.1 d.1 && (Nat.beq y.2 d.2 || (Nat.beq y.2 999 || Nat.beq d.2 999))))) = true → ax_HR w md hp hp' → X x vs hp → X x vs hp'
theorem ax_at_cons (x : Nat × ax_Y) (l : List (Nat × ax_Y)) (i : Nat) : ax_at (x :: l) i = (match ax_at l i with
  | some t => some t
  | none => bif Nat.ble x.1 i then some x.2 else none) := rfl
theorem ax_at_none : ∀ {l : List (Nat × ax_Y)} {i a : Nat}, ax_at l i = none → a ≤ i → ax_at l a = none
  | [], _, _, _, _ => rfl
  | x :: l, i, a, h, ha => by
    rw [ax_at_cons] at h ⊢
    cases e : ax_at l i with
    | some t => rw [e] at h; cases h
    | none =>
      rw [e] at h
      rw [ax_at_none e ha]
      show (bif Nat.ble x.1 a then some x.2 else none) = none
      cases hb : Nat.ble x.1 a with
      | false => rfl
      | true =>
        have hb := rx_ble.mp hb
        replace h : (bif Nat.ble x.1 i then some x.2 else none) = none := h
        rw [rx_ble.mpr (Nat.le_trans hb ha)] at h
        cases h
theorem ax_at_or : ∀ {l : List (Nat × ax_Y)} {i a : Nat} {s : ax_Y}, ax_at l i = some s → a ≤ i → ax_at l a = some s ∨ ∃ x ∈ l, a < x.1 ∧ x.1 ≤ i ∧ x.2 = s
  | [], _, _, _, h, _ => by cases h
  | x :: l, i, a, s, h, ha => by
    rw [ax_at_cons] at h
    cases e : ax_at l i with
    | some t =>
      rw [e] at h
      cases h
      rcases ax_at_or e ha with h1 | ⟨y, h1, h2⟩
      · left; rw [ax_at_cons, h1]
      · exact Or.inr ⟨y, List.mem_cons_of_mem _ h1, h2⟩
    | none =>
      rw [e] at h
      obtain ⟨h1, h2⟩ := rx_cond h
      cases h2
      have h1 := rx_ble.mp h1
      by_cases hb : x.1 ≤ a
      · left
        rw [ax_at_cons, ax_at_none e ha]
        show (bif Nat.ble x.1 a then some x.2 else none) = some x.2
        rw [rx_ble.mpr hb]; rfl
      · exact Or.inr ⟨x, List.mem_cons_self, by omega, h1, rfl⟩
theorem ax_at_some {l : List (Nat × ax_Y)} {i a : Nat} {s : ax_Y} (h : ax_at l a = some s) (ha : a ≤ i) : ∃ t, ax_at l i = some t := by
  cases e : ax_at l i with
  | some t => exact ⟨t, rfl⟩
  | none => rw [ax_at_none e ha] at h; cases h
section AXH
variable {w : ax_W}
theorem ax_eqY_ok {s t : ax_Y} (h : ax_eqY s t = true) : s = t := by
  obtain ⟨h1, h⟩ := rx_and2.mp h
  obtain ⟨h2, h3⟩ := rx_and2.mp h
  exact Prod.ext (rx_beq.mp h1) (Prod.ext (rx_beq.mp h2) (rx_beq.mp h3))
theorem ax_ok_wide {t : ax_Y} {a b v : Nat} (h0 : t.1 = 0) (h : ax_ok w t v) (h1 : a ≤ t.2.1) (h2 : t.2.2 ≤ b) : ax_ok w (0, a, b) v := by
  rcases h with ⟨-, p1, p2, p3, p4⟩ | ⟨p, -⟩ | ⟨p, -⟩ | ⟨p, -⟩
  · exact Or.inl ⟨rfl, p1, p2, Nat.le_trans h1 p3, Nat.le_trans p4 h2⟩
  · omega
  · omega
  · omega
theorem ax_min_l (a b : Nat) : ax_min a b ≤ a ∧ ax_min a b ≤ b := by
  unfold ax_min
  cases h : Nat.ble a b with
  | true => exact ⟨Nat.le_refl _, rx_ble.mp h⟩
  | false => exact ⟨by have : ¬ a ≤ b := fun z => by rw [rx_ble.mpr z] at h; cases h
                       show b ≤ a; omega, Nat.le_refl _⟩
theorem ax_max_l (a b : Nat) : a ≤ ax_max a b ∧ b ≤ ax_max a b := by
  unfold ax_max
  cases h : Nat.ble a b with
  | true => exact ⟨rx_ble.mp h, Nat.le_refl _⟩
  | false => exact ⟨Nat.le_refl _, by have : ¬ a ≤ b := fun z => by rw [rx_ble.mpr z] at h; cases h
                                      show b ≤ a; omega⟩
theorem ax_join_ok {s t u : ax_Y} {v : Nat} (h : ax_join s t = some u) : (ax_ok w s v → ax_ok w u v) ∧ (ax_ok w t v → ax_ok w u v) := by
  rcases ax_condY h with ⟨hc, hr⟩ | ⟨-, h⟩
  · obtain ⟨c1, c2⟩ := rx_and2.mp hc
    cases hr
    exact ⟨fun k => ax_ok_wide (rx_beq.mp c1) k (ax_min_l _ _).1 (ax_max_l _ _).1, fun k => ax_ok_wide (rx_beq.mp c2) k (ax_min_l _ _).2 (ax_max_l _ _).2⟩
  · obtain ⟨hc, h⟩ := rx_cond h
    cases h
    have e := ax_eqY_ok hc
    exact ⟨id, fun k => by rw [e]; exact k⟩
theorem ax_hull_ok {l : List (Nat × ax_Y)} {a b i v : Nat} {t s : ax_Y} (h : ax_hull l a b = some t) (h1 : a ≤ i) (h2 : i ≤ b) (hs : ax_at l i = some s) (hv : ax_ok w s v) : ax_ok w t v := by
  have gen : ∀ (m : List (Nat × ax_Y)) (h0 : Option ax_Y) (t : ax_Y), List.rec (motive := fun _ => Option ax_Y) h0 (fun x _ ih => bif Nat.blt a x.1 && Nat.ble x.1 b then (match ih with
      | some t => ax_join x.2 t
      | none => none) else ih) m = some t → (∀ s0, h0 = some s0 → ax_ok w s0 v → ax_ok w t v) ∧ ∀ x ∈ m, a < x.1 → x.1 ≤ b → ax_ok w x.2 v → ax_ok w t v := by
    intro m h0
    induction m with
    | nil =>
      intro t ht
      refine ⟨fun s0 hs0 hk => ?_, fun x hx => absurd hx List.not_mem_nil⟩
      replace ht : h0 = some t := ht
      rw [hs0] at ht
      cases ht
      exact hk
    | cons x m ih =>
      intro t ht
      rcases ax_condY ht with ⟨hc, ht⟩ | ⟨hc, ht⟩
      · generalize hz : List.rec (motive := fun _ => Option ax_Y) h0 (fun x _ ih => bif Nat.blt a x.1 && Nat.ble x.1 b then (match ih with
          | some t => ax_join x.2 t
          | none => none) else ih) m = z at ht
        cases z with
        | none => cases ht
        | some z =>
          replace ht : ax_join x.2 z = some t := ht
          obtain ⟨g1, g2⟩ := ih z hz
          have hj := ax_join_ok (w := w) (v := v) ht
          refine ⟨fun s0 hs0 hk => hj.2 (g1 s0 hs0 hk), fun y hy => ?_⟩
          rcases List.mem_cons.mp hy with rfl | hy
          · exact fun _ _ hk => hj.1 hk
          · exact fun p1 p2 hk => hj.2 (g2 y hy p1 p2 hk)
      · obtain ⟨g1, g2⟩ := ih t ht
        refine ⟨g1, fun y hy => ?_⟩
        rcases List.mem_cons.mp hy with rfl | hy
        · intro p1 p2 _
          rw [rx_blt.mpr p1, rx_ble.mpr p2] at hc
          cases hc
        · exact g2 y hy
  obtain ⟨g1, g2⟩ := gen l (ax_at l a) t h
  rcases ax_at_or hs h1 with e | ⟨x, hx, p1, p2, rfl⟩
  · exact g1 s e hv
  · exact g2 x hx p1 (Nat.le_trans p2 h2) hv
theorem ax_sub_ty {t s : ax_Y} {v : Nat} (h : ax_sub w t s = true) (hv : ax_ok w t v) : ax_ok w s v := by
  rcases ax_condY h with ⟨h0, h⟩ | ⟨-, h⟩
  · obtain ⟨h1, h⟩ := rx_and2.mp h
    obtain ⟨h2, h3⟩ := rx_and2.mp h
    have e : s = (0, s.2.1, s.2.2) := by rw [← rx_beq.mp h0]
    rw [e]
    exact ax_ok_wide (rx_beq.mp h1) hv (rx_ble.mp h2) (rx_ble.mp h3)
  rcases ax_condY h with ⟨h0, h⟩ | ⟨-, h⟩
  · have h1 := rx_beq.mp h
    rcases hv with ⟨p, -⟩ | ⟨-, p⟩ | ⟨p, -⟩ | ⟨p, -⟩
    · omega
    · exact Or.inr (Or.inl ⟨rx_beq.mp h0, p⟩)
    · omega
    · omega
  rcases ax_condY h with ⟨h0, h⟩ | ⟨-, h⟩
  · have h0 := rx_beq.mp h0
    rcases ax_condY h with ⟨h1, h⟩ | ⟨-, h⟩
    · have h1 := rx_beq.mp h1
      have h2 := rx_beq.mp h
      rcases hv with ⟨p, -⟩ | ⟨p, -⟩ | ⟨-, p1, p2, p3, p4⟩ | ⟨p, -⟩
      · omega
      · omega
      · exact Or.inr (Or.inr (Or.inl ⟨h0, p1, p2, p3, by rw [← h2]; exact p4⟩))
      · omega
    · obtain ⟨h1, h⟩ := rx_and2.mp h
      obtain ⟨h2, h⟩ := rx_and2.mp h
      obtain ⟨h3, h⟩ := rx_and2.mp h
      obtain ⟨h4, h5⟩ := rx_and2.mp h
      have h1 := rx_beq.mp h1
      rcases hv with ⟨p, -⟩ | ⟨p, -⟩ | ⟨p, -⟩ | ⟨-, p1, p2⟩
      · omega
      · omega
      · omega
      · subst p1
        refine Or.inr (Or.inr (Or.inl ⟨h0, p2, rx_ble.mp h3, rx_blt.mp h4, ?_⟩))
        rw [rx_nth_eq] at h5
        cases e : w.1[Nat.sub (rx_pl t.2.1) 2]? with
        | none => rw [e] at h5; cases h5
        | some g =>
          rw [e] at h5
          have := rx_beq.mp h5
          rw [← this]
          exact e
  · obtain ⟨h0, h⟩ := rx_and2.mp h
    obtain ⟨h1, h2⟩ := rx_and2.mp h
    have h1 := rx_beq.mp h1
    rcases hv with ⟨p, -⟩ | ⟨p, -⟩ | ⟨p, -⟩ | ⟨-, p1, p2⟩
    · omega
    · omega
    · omega
    · exact Or.inr (Or.inr (Or.inr ⟨rx_beq.mp h0, by rw [← rx_beq.mp h2]; exact p1, p2⟩))
theorem ax_fits_ok {l : List (Nat × ax_Y)} {a b i v : Nat} {t : ax_Y} (h : ax_fits w t l a b = true) (h1 : a ≤ i) (h2 : i ≤ b) (hv : ax_ok w t v) : ∃ s, ax_at l i = some s ∧ ax_ok w s v := by
  obtain ⟨ha, hl⟩ := rx_and2.mp h
  cases e : ax_at l a with
  | none => rw [e] at ha; cases ha
  | some s0 =>
    rw [e] at ha
    obtain ⟨s, hs⟩ := ax_at_some e h1
    refine ⟨s, hs, ?_⟩
    rcases ax_at_or hs h1 with e2 | ⟨x, hx, p1, p2, rfl⟩
    · cases e.symm.trans e2
      exact ax_sub_ty ha hv
    · have := List.all_eq_true.mp hl x hx
      rw [rx_blt.mpr p1, rx_ble.mpr (Nat.le_trans p2 h2)] at this
      exact ax_sub_ty this hv
theorem ax_get_ok : ∀ {fs : List (Nat × Nat × Nat)} {a i v : Nat}, ax_get fs a i = some v → (a, i, v) ∈ fs
  | [], _, _, _, h => by cases h
  | x :: fs, a, i, v, h => by
    rcases ax_condY h with ⟨hc, h⟩ | ⟨-, h⟩
    · obtain ⟨c1, c2⟩ := rx_and2.mp hc
      cases h
      have e : (a, i, x.2.2) = x := Prod.ext (rx_beq.mp c1).symm (Prod.ext (rx_beq.mp c2).symm rfl)
      rw [e]
      exact List.mem_cons_self
    · exact List.mem_cons_of_mem _ (ax_get_ok h)
theorem ax_HR.rf {md : List (Nat × Nat)} {hp : rx_H} : ax_HR w md hp hp := ⟨rfl, fun _ _ _ _ _ l h => ⟨l, h, fun _ _ => rfl⟩⟩
theorem ax_HR.tr {md : List (Nat × Nat)} {h1 h2 h3 : rx_H} (a : ax_HR w md h1 h2) (b : ax_HR w md h2 h3) : ax_HR w md h1 h3 :=
  ⟨b.1.trans a.1, fun q g hq k n l hl => by
    obtain ⟨l2, e2, f2⟩ := a.2 q g hq k n l hl
    obtain ⟨l3, e3, f3⟩ := b.2 q g hq k n l2 e2
    exact ⟨l3, e3, fun i hi => (f3 i hi).trans (f2 i hi)⟩⟩
theorem ax_HR.wk {md md' : List (Nat × Nat)} {h1 h2 : rx_H} (a : ax_HR w md h1 h2) (hs : ∀ g i, ax_mem md' g i = false → ax_mem md g i = false) : ax_HR w md' h1 h2 :=
  ⟨a.1, fun q g hq k n l hl => by
    obtain ⟨l2, e2, f2⟩ := a.2 q g hq k n l hl
    exact ⟨l2, e2, fun i hi => f2 i (hs g i hi)⟩⟩
theorem ax_mem_one {md : List (Nat × Nat)} {g j : Nat} (h : ax_mem md g j = true) : ∀ g' i, ax_mem md g' i = false → ax_mem [(g, j)] g' i = false := by
  intro g' i hf
  refine Bool.eq_false_iff.mpr (fun z => ?_)
  obtain ⟨x, hx, hz⟩ := List.any_eq_true.mp z
  cases List.mem_singleton.mp hx
  obtain ⟨z1, z2⟩ := rx_and2.mp hz
  have z1 : g = g' := rx_beq.mp z1
  subst z1
  obtain ⟨y, hy, hk⟩ := List.any_eq_true.mp h
  obtain ⟨k1, k2⟩ := rx_and2.mp hk
  have : ax_mem md g i = true := by
    refine List.any_eq_true.mpr ⟨y, hy, rx_and2.mpr ⟨k1, ?_⟩⟩
    rcases rx_or2.mp z2 with z2 | z2
    · have z2 : j = i := rx_beq.mp z2
      rw [← z2]
      exact k2
    · have z2 : j = 999 := rx_beq.mp z2
      rw [z2] at k2
      rcases rx_or2.mp k2 with k2 | k2
      · exact rx_or2.mpr (Or.inr k2)
      · exact rx_or2.mpr (Or.inr k2)
  rw [this] at hf
  cases hf
end AXH
