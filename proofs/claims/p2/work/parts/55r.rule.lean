/-! Rules: what may be concluded at a place: pc, a pattern of locals and stack, what holds then (one of these; of none: it can't be) -/
abbrev ax_RL : Type := Nat × ax_T × List ax_T
/-- what a template forgets (2) is forgotten -/
noncomputable def ax_mask (ts : List Nat) : List Nat → List Nat := List.rec (motive := fun _ => List Nat → List Nat) (fun vs => vs) (fun t _ ih vs => match vs with
  | v :: vs' => (bif Nat.beq t 2 then 2 else v) :: ih vs'
  | [] => []) ts
noncomputable def ax_rl1 (w : ax_W) (r : ax_RL) (a : ax_A) : Option (List ax_O) := match ax_match w a.2.2.2 0 r.2.1 (ax_mask r.2.1.1 (a.2.1 ++ a.2.2.1)) with
  | some m => ax_posts w a.2.2.2 m (ax_n r.2.1.2) [] r.2.2
  | none => none
noncomputable def ax_rlf (f : ax_A → List ax_A) (a : ax_A) (os : List ax_O) : List ax_A := List.rec (motive := fun _ => List ax_A) [] (fun o _ ih => f (a.1, a.2.1, a.2.2.1, o.2) ++ ih) os
noncomputable def ax_rls (w : ax_W) (rl : List ax_RL) : ax_A → List ax_A := List.rec (motive := fun _ => ax_A → List ax_A) (fun a => [a]) (fun r _ ih a => bif Nat.beq r.1 a.1 then (match ax_rl1 w r a with
  | some os => ax_rlf ih a os
  | none => ih a) else ih a) rl
theorem ax_mask_ev {n : Nat} {ρ : Nat → Nat} : ∀ {ts vs xs : List Nat}, vs.map (ax_ev n ρ) = xs.map some → (ax_mask ts vs).map (ax_ev n ρ) = (ax_mask ts xs).map some
  | [], vs, xs, h => h
  | t :: ts, [], [], _ => rfl
  | t :: ts, [], _ :: _, h => by cases h
  | t :: ts, _ :: _, [], h => by cases h
  | t :: ts, v :: vs, x :: xs, h => by
    obtain ⟨x', r', e, hx, h⟩ := ax_evs_cons h
    cases e
    show List.map _ ((bif Nat.beq t 2 then 2 else v) :: ax_mask ts vs) = List.map some ((bif Nat.beq t 2 then 2 else x) :: ax_mask ts xs)
    refine ax_evs_push ?_ (ax_mask_ev h)
    cases Nat.beq t 2 with
    | true => exact ax_ev_c (v := 2) (by decide)
    | false => exact hx
section AXR
variable {w : ax_W} {X : ax_X} {ρ : Nat → Nat} {hp : rx_H}
/-- a rule is right -/
noncomputable def ax_RO (w : ax_W) (X : ax_X) (r : ax_RL) : Prop := ∀ (ρ : Nat → Nat) (hp : rx_H), ax_EO w X ρ r.2.1.2 hp → ax_HT w hp → ∃ po ∈ r.2.2, ∃ ρ' : Nat → Nat, (∀ k, k < ax_n r.2.1.2 → ρ' k = ρ k) ∧ ax_EO w X ρ' po.2 hp
theorem ax_rlf_in {f : ax_A → List ax_A} {a a1 : ax_A} : ∀ {os : List ax_O} {o : ax_O}, o ∈ os → a1 ∈ f (a.1, a.2.1, a.2.2.1, o.2) → a1 ∈ ax_rlf f a os
  | [], _, h, _ => by cases h
  | p :: os, o, h, h1 => by
    show a1 ∈ f (a.1, a.2.1, a.2.2.1, p.2) ++ ax_rlf f a os
    rcases List.mem_cons.mp h with rfl | h
    · exact List.mem_append_left _ h1
    · exact List.mem_append_right _ (ax_rlf_in h h1)
theorem ax_rl1_ok (hX : ax_XD w X) {r : ax_RL} (hr : ax_RO w X r) {a : ax_A} {σ : rx_S} (hR : ax_R w X ρ a hp σ) {os : List ax_O} (h : ax_rl1 w r a = some os) : ∃ o ∈ os, ∃ ρ' : Nat → Nat, (∀ k, k < a.2.2.2.1 → ρ' k = ρ k) ∧ a.2.2.2.1 ≤ o.2.1 ∧ ax_R w X ρ' (a.1, a.2.1, a.2.2.1, o.2) hp σ := by
  obtain ⟨R1, R2, R3, R4, R5, R6⟩ := hR
  unfold ax_rl1 at h
  cases em : ax_match w a.2.2.2 0 r.2.1 (ax_mask r.2.1.1 (a.2.1 ++ a.2.2.1)) with
  | none => rw [em] at h; cases h
  | some m =>
    rw [em] at h
    have hvs : (a.2.1 ++ a.2.2.1).map (ax_ev a.2.2.2.1 ρ) = (σ.2.1 ++ σ.2.2.1).map some := by
      rw [List.map_append, List.map_append, R2, R3]
    have hvm := ax_mask_ev (ts := r.2.1.1) hvs
    obtain ⟨m1, m2, m3⟩ := ax_match_ok R5 hvm em
    have me := ax_match_me R5 hvm em
    obtain ⟨po, hpo, ρ1, g1, g2⟩ := hr _ hp m2 R6
    obtain ⟨z, hz, hz2⟩ := ax_posts_ok h po hpo
    obtain ⟨rv, E'⟩ := z
    obtain ⟨r1, k1, k2, k3, k4, k5⟩ := ax_post_ok hX R5 me g1 g2 ax_HR.rf hz2
    exact ⟨(rv, E'), hz, _, k3, k2, ⟨R1, ax_evs_mono k2 k3 R2, ax_evs_mono k2 k3 R3, R4, k5, R6⟩⟩
/-- rules, one after the other -/
theorem ax_rls_ok (hX : ax_XD w X) : ∀ {rl : List ax_RL}, (∀ r ∈ rl, ax_RO w X r) → ∀ {ρ : Nat → Nat} {a : ax_A} {σ : rx_S}, ax_R w X ρ a hp σ → ∃ a1 ∈ ax_rls w rl a, ∃ ρ' : Nat → Nat, (∀ k, k < a.2.2.2.1 → ρ' k = ρ k) ∧ a.2.2.2.1 ≤ a1.2.2.2.1 ∧ ax_R w X ρ' a1 hp σ
  | [], _, ρ, a, σ, hR => ⟨a, List.mem_cons_self, ρ, fun _ _ => rfl, Nat.le_refl _, hR⟩
  | r :: rl, hrl, ρ, a, σ, hR => by
    show ∃ a1 ∈ (bif Nat.beq r.1 a.1 then (match ax_rl1 w r a with
      | some os => ax_rlf (ax_rls w rl) a os
      | none => ax_rls w rl a) else ax_rls w rl a), _
    have nxt : ∀ {ρ : Nat → Nat} {a : ax_A}, ax_R w X ρ a hp σ → ∃ a1 ∈ ax_rls w rl a, ∃ ρ' : Nat → Nat, (∀ k, k < a.2.2.2.1 → ρ' k = ρ k) ∧ a.2.2.2.1 ≤ a1.2.2.2.1 ∧ ax_R w X ρ' a1 hp σ := fun hR => ax_rls_ok hX (fun r' h' => hrl r' (List.mem_cons_of_mem _ h')) hR
    cases hb : Nat.beq r.1 a.1 with
    | false => exact nxt hR
    | true =>
      rw [cond_true]
      cases e : ax_rl1 w r a with
      | none => exact nxt hR
      | some os =>
        obtain ⟨o, ho, ρ1, g1, g2, g3⟩ := ax_rl1_ok hX (hrl r List.mem_cons_self) hR e
        obtain ⟨a1, h1, ρ2, k1, k2, k3⟩ := nxt g3
        exact ⟨a1, ax_rlf_in ho h1, ρ2, fun k hk => (k1 k (Nat.lt_of_lt_of_le hk g2)).trans (g1 k hk), Nat.le_trans g2 k2, k3⟩
end AXR
