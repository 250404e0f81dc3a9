/-- only types have changed -/
noncomputable def ax_Sm (E E' : ax_E) : Prop := E'.1 = E.1 ∧ E'.2.2 = E.2.2
theorem ax_Sm.rf {E : ax_E} : ax_Sm E E := ⟨rfl, rfl⟩
theorem ax_Sm.tr {E F G : ax_E} (h : ax_Sm E F) (k : ax_Sm F G) : ax_Sm E G := ⟨k.1.trans h.1, k.2.trans h.2⟩
section AXR
variable {w : ax_W} {X : ax_X} {ρ : Nat → Nat} {E : ax_E} {hp : rx_H}
theorem ax_setT_ok (hE : ax_EO w X ρ E hp) {k : Nat} {t : ax_Y} (hk : k < E.1) (ht : ax_ok w t (ρ k)) : ax_EO w X ρ (ax_setT E k t) hp := by
  refine ⟨?_, ?_, hE.2.2⟩
  · show (rx_upd E.2.1 (E.1 - 1 - k) t).length = E.1
    rw [rx_upd_eq, List.length_set]
    exact hE.1
  · intro k' s hk' hs
    replace hs : (rx_upd E.2.1 (E.1 - 1 - k) t)[E.1 - 1 - k']? = some s := hs
    replace hk' : k' < E.1 := hk'
    rw [rx_upd_eq] at hs
    by_cases e : k' = k
    · subst e
      have hl : E.1 - 1 - k' < E.2.1.length := by rw [hE.1]; omega
      rw [List.getElem?_set_self hl] at hs
      cases hs
      exact ht
    · rw [List.getElem?_set_ne (by omega)] at hs
      exact hE.2.1 k' s hk' hs
theorem ax_max_le {a b c : Nat} (h1 : a ≤ c) (h2 : b ≤ c) : ax_max a b ≤ c := by
  unfold ax_max
  cases Nat.ble a b <;> assumption
theorem ax_le_min {a b c : Nat} (h1 : c ≤ a) (h2 : c ≤ b) : c ≤ ax_min a b := by
  unfold ax_min
  cases Nat.ble a b <;> assumption
theorem ax_ref2_ok (hE : ax_EO w X ρ E hp) {v x a b : Nat} (hx : ax_ev E.1 ρ v = some x) (h0 : x % 4 = 0) (h1 : x / 4 < 4294967296) (ha : a ≤ rx_bi (x / 4)) (hb : rx_bi (x / 4) ≤ b) : ∃ E', ax_ref2 E v a b = some E' ∧ ax_EO w X ρ E' hp ∧ ax_Sm E E' := by
  unfold ax_ref2
  rw [rx_ble.mpr (Nat.le_trans ha hb), cond_true]
  cases h3 : Nat.beq (rx_tk v) 3 with
  | false => exact ⟨E, rfl, hE, ax_Sm.rf⟩
  | true =>
    have h3 : v % 4 = 3 := rx_beq.mp h3
    unfold ax_ev at hx
    rw [if_pos h3] at hx
    by_cases hl : v / 4 < E.1
    · rw [if_pos hl] at hx
      cases hx
      exact ⟨_, rfl, ax_setT_ok hE hl (Or.inl ⟨rfl, h0, h1, ha, hb⟩), ⟨rfl, rfl⟩⟩
    · rw [if_neg hl] at hx; cases hx
theorem ax_ref1_ok (hE : ax_EO w X ρ E hp) {v x lo hi : Nat} (hx : ax_ev E.1 ρ v = some x) (ha : lo ≤ rx_bi (x / 4)) (hb : rx_bi (x / 4) ≤ hi) : ∃ E', ax_ref1 E v lo hi = some E' ∧ ax_EO w X ρ E' hp ∧ ax_Sm E E' := by
  unfold ax_ref1
  cases hi' : ax_iv E v with
  | none => exact ⟨E, rfl, hE, ax_Sm.rf⟩
  | some i =>
    obtain ⟨h0, h1, h2, h3⟩ := ax_iv_ok hE hi' hx
    exact ax_ref2_ok hE hx h0 h1 (ax_max_le h2 ha) (ax_le_min h3 hb)
theorem ax_Sm.ev {E' : ax_E} (h : ax_Sm E E') (v : Nat) : ax_ev E'.1 ρ v = ax_ev E.1 ρ v := by rw [h.1]
theorem ax_tri1_ok (hE : ax_EO w X ρ E hp) {p q r : Nat} (hd : ax_DO E.1 ρ (p, q, r)) : ∃ E', ax_tri1 E p q r = some E' ∧ ax_EO w X ρ E' hp ∧ ax_Sm E E' := by
  obtain ⟨a, b, c, h1, h2, h3, h4, h5, h6, h7⟩ := hd
  unfold ax_tri1
  cases e1 : ax_iv E p with
  | none => exact ⟨E, rfl, hE, ax_Sm.rf⟩
  | some ip =>
    cases e2 : ax_iv E q with
    | none => exact ⟨E, rfl, hE, ax_Sm.rf⟩
    | some iq =>
      cases e3 : ax_iv E r with
      | none => exact ⟨E, rfl, hE, ax_Sm.rf⟩
      | some ir =>
        have d4 : ∀ z : Nat, 4 * z / 4 = z := fun z => by omega
        obtain ⟨-, -, p1, p2⟩ := ax_iv_ok hE e1 h1
        obtain ⟨-, -, q1, q2⟩ := ax_iv_ok hE e2 h2
        obtain ⟨-, -, r1, r2⟩ := ax_iv_ok hE e3 h3
        rw [d4] at p1 p2 q1 q2 r1 r2
        obtain ⟨E1, f1, f2, f3⟩ := ax_ref1_ok (lo := Nat.sub (Nat.add ir.1 2147483648) iq.2) (hi := Nat.sub (Nat.add ir.2 2147483648) iq.1) hE h1 (by rw [d4]; show ir.1 + 2147483648 - iq.2 ≤ _; omega) (by rw [d4]; show _ ≤ ir.2 + 2147483648 - iq.1; omega)
        obtain ⟨E2, g1, g2, g3⟩ := ax_ref1_ok (v := q) (lo := Nat.sub (Nat.add ir.1 2147483648) ip.2) (hi := Nat.sub (Nat.add ir.2 2147483648) ip.1) f2 (by rw [f3.ev]; exact h2) (by rw [d4]; show ir.1 + 2147483648 - ip.2 ≤ _; omega) (by rw [d4]; show _ ≤ ir.2 + 2147483648 - ip.1; omega)
        obtain ⟨E3, k1, k2, k3⟩ := ax_ref1_ok (v := r) (lo := Nat.sub (Nat.add ip.1 iq.1) 2147483648) (hi := Nat.sub (Nat.add ip.2 iq.2) 2147483648) g2 (by rw [g3.ev, f3.ev]; exact h3) (by rw [d4]; show ip.1 + iq.1 - 2147483648 ≤ _; omega) (by rw [d4]; show _ ≤ ip.2 + iq.2 - 2147483648; omega)
        refine ⟨E3, ?_, k2, f3.tr (g3.tr k3)⟩
        show ax_bind (ax_ref1 E p _ _) _ = some E3
        rw [f1]
        show ax_bind (ax_ref1 E1 q _ _) _ = some E3
        rw [g1]
        exact k1
theorem ax_prop_ok (hE : ax_EO w X ρ E hp) (v : Nat) : ∃ E', ax_prop E v = some E' ∧ ax_EO w X ρ E' hp ∧ ax_Sm E E' := by
  have gen : ∀ l : List (Nat × Nat × Nat), (∀ d ∈ l, ax_DO E.1 ρ d) → ∃ E', List.rec (motive := fun _ => Option ax_E) (some E) (fun d _ ih => ax_bind ih (fun E1 => bif Nat.beq d.1 v || (Nat.beq d.2.1 v || Nat.beq d.2.2 v) then ax_tri1 E1 d.1 d.2.1 d.2.2 else some E1)) l = some E' ∧ ax_EO w X ρ E' hp ∧ ax_Sm E E' := by
    intro l
    induction l with
    | nil => intro _; exact ⟨E, rfl, hE, ax_Sm.rf⟩
    | cons d l ih =>
      intro hl
      obtain ⟨E1, f1, f2, f3⟩ := ih (fun d' h' => hl d' (List.mem_cons_of_mem _ h'))
      have hd := hl d List.mem_cons_self
      show ∃ E', ax_bind (List.rec (motive := fun _ => Option ax_E) (some E) _ l) _ = some E' ∧ _
      rw [f1]
      show ∃ E', (bif Nat.beq d.1 v || (Nat.beq d.2.1 v || Nat.beq d.2.2 v) then ax_tri1 E1 d.1 d.2.1 d.2.2 else some E1) = some E' ∧ _
      cases (Nat.beq d.1 v || (Nat.beq d.2.1 v || Nat.beq d.2.2 v)) with
      | false => exact ⟨E1, rfl, f2, f3⟩
      | true =>
        obtain ⟨E2, g1, g2, g3⟩ := ax_tri1_ok f2 (p := d.1) (q := d.2.1) (r := d.2.2) (by rw [f3.1]; exact hd)
        exact ⟨E2, g1, g2, f3.tr g3⟩
  exact gen (ax_df E) hE.2.2.2.1
theorem ax_refine_ok (hE : ax_EO w X ρ E hp) {v x lo hi : Nat} (hx : ax_ev E.1 ρ v = some x) (ha : lo ≤ rx_bi (x / 4)) (hb : rx_bi (x / 4) ≤ hi) : ∃ E', ax_refine E v lo hi = some E' ∧ ax_EO w X ρ E' hp ∧ ax_Sm E E' := by
  unfold ax_refine
  obtain ⟨E1, f1, f2, f3⟩ := ax_ref1_ok hE hx ha hb
  cases Nat.beq (rx_tk v) 3 with
  | false => exact ⟨E1, f1, f2, f3⟩
  | true =>
    obtain ⟨E2, g1, g2, g3⟩ := ax_prop_ok f2 v
    refine ⟨E2, ?_, g2, f3.tr g3⟩
    show ax_bind (ax_ref1 E v lo hi) _ = some E2
    rw [f1]
    exact g1
theorem ax_bi_max (x : Nat) : rx_bi x ≤ 4294967295 := by rw [ax_bi_def]; omega
theorem ax_asLe_ok (hE : ax_EO w X ρ E hp) {p q x y s : Nat} (hx : ax_ev E.1 ρ p = some x) (hy : ax_ev E.1 ρ q = some y) (h : rx_bi (x / 4) + s ≤ rx_bi (y / 4)) : ∃ E', ax_asLe E p q s = some E' ∧ ax_EO w X ρ E' hp ∧ ax_Sm E E' := by
  unfold ax_asLe
  cases e1 : ax_iv E p with
  | none => exact ⟨E, rfl, hE, ax_Sm.rf⟩
  | some ix =>
    cases e2 : ax_iv E q with
    | none => exact ⟨E, rfl, hE, ax_Sm.rf⟩
    | some iy =>
      obtain ⟨-, -, p1, p2⟩ := ax_iv_ok hE e1 hx
      obtain ⟨-, -, q1, q2⟩ := ax_iv_ok hE e2 hy
      show ∃ E', (bif Nat.ble s iy.2 then _ else none) = some E' ∧ _
      rw [rx_ble.mpr (show s ≤ iy.2 by omega), cond_true]
      obtain ⟨E1, f1, f2, f3⟩ := ax_refine_ok (lo := 0) (hi := Nat.sub iy.2 s) hE hx (Nat.zero_le _) (by show _ ≤ iy.2 - s; omega)
      obtain ⟨E2, g1, g2, g3⟩ := ax_refine_ok (v := q) (lo := Nat.add ix.1 s) (hi := 4294967295) f2 (by rw [f3.ev]; exact hy) (by show ix.1 + s ≤ _; omega) (ax_bi_max _)
      refine ⟨E2, ?_, g2, f3.tr g3⟩
      rw [f1]
      exact g1
theorem ax_asEq_ok (hE : ax_EO w X ρ E hp) {p q x y : Nat} (hx : ax_ev E.1 ρ p = some x) (hy : ax_ev E.1 ρ q = some y) (h : rx_bi (x / 4) = rx_bi (y / 4)) : ∃ E', ax_asEq E p q = some E' ∧ ax_EO w X ρ E' hp ∧ ax_Sm E E' := by
  unfold ax_asEq
  cases e1 : ax_iv E p with
  | none => exact ⟨E, rfl, hE, ax_Sm.rf⟩
  | some ix =>
    cases e2 : ax_iv E q with
    | none => exact ⟨E, rfl, hE, ax_Sm.rf⟩
    | some iy =>
      obtain ⟨-, -, p1, p2⟩ := ax_iv_ok hE e1 hx
      obtain ⟨-, -, q1, q2⟩ := ax_iv_ok hE e2 hy
      obtain ⟨E1, f1, f2, f3⟩ := ax_refine_ok (lo := iy.1) (hi := iy.2) hE hx (by rw [h]; exact q1) (by rw [h]; exact q2)
      obtain ⟨E2, g1, g2, g3⟩ := ax_refine_ok (v := q) (lo := ix.1) (hi := ix.2) f2 (by rw [f3.ev]; exact hy) (by rw [← h]; exact p1) (by rw [← h]; exact p2)
      refine ⟨E2, ?_, g2, f3.tr g3⟩
      show ax_bind (ax_refine E p iy.1 iy.2) _ = some E2
      rw [f1]
      exact g1
theorem ax_ne1_ok (hE : ax_EO w X ρ E hp) {p x c : Nat} (hx : ax_ev E.1 ρ p = some x) (h : rx_bi (x / 4) ≠ c) : ∃ E' ∈ ax_ne1 E p c, ax_EO w X ρ E' hp ∧ ax_Sm E E' := by
  unfold ax_ne1
  by_cases hl : rx_bi (x / 4) < c
  · obtain ⟨E1, f1, f2, f3⟩ := ax_refine_ok (lo := 0) (hi := Nat.pred c) hE hx (Nat.zero_le _) (by show _ ≤ c - 1; omega)
    refine ⟨E1, List.mem_append_left _ ?_, f2, f3⟩
    rw [rx_blt.mpr (show 0 < c by omega), cond_true, f1]
    exact List.mem_cons_self
  · obtain ⟨E1, f1, f2, f3⟩ := ax_refine_ok (lo := Nat.succ c) (hi := 4294967295) hE hx (by show c + 1 ≤ _; omega) (ax_bi_max _)
    refine ⟨E1, List.mem_append_right _ ?_, f2, f3⟩
    rw [f1]
    exact List.mem_cons_self
theorem ax_asNe_ok (hE : ax_EO w X ρ E hp) {p q x y : Nat} (hx : ax_ev E.1 ρ p = some x) (hy : ax_ev E.1 ρ q = some y) (h : rx_bi (x / 4) ≠ rx_bi (y / 4)) : ∃ E' ∈ ax_asNe E p q, ax_EO w X ρ E' hp ∧ ax_Sm E E' := by
  unfold ax_asNe
  cases e1 : ax_iv E p with
  | none => exact ⟨E, List.mem_cons_self, hE, ax_Sm.rf⟩
  | some ix =>
    cases e2 : ax_iv E q with
    | none => exact ⟨E, List.mem_cons_self, hE, ax_Sm.rf⟩
    | some iy =>
      obtain ⟨-, -, p1, p2⟩ := ax_iv_ok hE e1 hx
      obtain ⟨-, -, q1, q2⟩ := ax_iv_ok hE e2 hy
      show ∃ E' ∈ (bif Nat.beq iy.1 iy.2 then ax_ne1 E p iy.1 else bif Nat.beq ix.1 ix.2 then ax_ne1 E q ix.1 else [E]), _
      cases h1 : Nat.beq iy.1 iy.2 with
      | true =>
        have h1 := rx_beq.mp h1
        exact ax_ne1_ok hE hx (by omega)
      | false =>
        rw [cond_false]
        cases h2 : Nat.beq ix.1 ix.2 with
        | true =>
          have h2 := rx_beq.mp h2
          exact ax_ne1_ok hE hy (by omega)
        | false => exact ⟨E, List.mem_cons_self, hE, ax_Sm.rf⟩
theorem ax_p0 {a b : Nat} (h : a ≤ b) : a + 0 ≤ b := h
theorem ax_yes_ok (hE : ax_EO w X ρ E hp) {k p q x y : Nat} (hx : ax_ev E.1 ρ p = some x) (hy : ax_ev E.1 ρ q = some y) (h : ax_cnd k (rx_bi (x / 4)) (rx_bi (y / 4))) : ∃ E' ∈ ax_yes E k p q, ax_EO w X ρ E' hp ∧ ax_Sm E E' := by
  have one : ∀ {o : Option ax_E}, (∃ E', o = some E' ∧ ax_EO w X ρ E' hp ∧ ax_Sm E E') → ∃ E' ∈ ax_lst o, ax_EO w X ρ E' hp ∧ ax_Sm E E' := by
    intro o ho
    obtain ⟨E', h1, h2⟩ := ho
    exact ⟨E', by rw [h1]; exact List.mem_cons_self, h2⟩
  match k, h with
  | 0, h => exact one (ax_asEq_ok hE hx hy h)
  | 1, h => exact ax_asNe_ok hE hx hy h
  | 2, h => exact one (ax_asLe_ok hE hx hy (s := 1) h)
  | 3, h => exact one (ax_asLe_ok hE hy hx (s := 0) (ax_p0 h))
  | 4, h => exact one (ax_asLe_ok hE hy hx (s := 1) h)
  | n + 5, h =>
    have e : ∀ k, k < 5 → Nat.beq (n + 5) k = false := fun k hk => Bool.eq_false_iff.mpr (fun z => by have := rx_beq.mp z; omega)
    unfold ax_yes
    rw [e 0 (by decide), e 1 (by decide), e 2 (by decide), e 3 (by decide), e 4 (by decide)]
    exact one (ax_asLe_ok hE hx hy (s := 0) (ax_p0 h))
theorem ax_not_ok {k x y : Nat} (hk : k < 6) (h : ¬ ax_cnd k x y) : ax_cnd (ax_not k) x y := by
  match k, hk, h with
  | 0, _, h => exact h
  | 1, _, h => exact (show x = y from Decidable.byContradiction (fun z => h z))
  | 2, _, h => exact Nat.not_lt.mp h
  | 3, _, h => exact Nat.not_le.mp h
  | 4, _, h => exact Nat.not_lt.mp h
  | 5, _, h => exact Nat.not_le.mp h
  | n + 6, hk, _ => omega
end AXR
