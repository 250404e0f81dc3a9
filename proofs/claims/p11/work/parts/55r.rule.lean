/-! Rules: what may be concluded at a place: pc, a pattern of locals and stack, what holds then (one of these; of none: it can't be), symbols of the pattern that lie between two numbers -/
abbrev ax_RL : Type := Nat × ax_T × List ax_T × List (Nat × Nat × Nat)
/-- what a template forgets (2) is forgotten -/
noncomputable def ax_mask (ts : List Nat) : List Nat → List Nat := List.rec (motive := fun _ => List Nat → List Nat) (fun vs => vs) (fun t _ ih vs => match vs with
  | v :: vs' => (bif Nat.beq t 2 then 2 else v) :: ih vs'
  | [] => []) ts
noncomputable def ax_rfs (m : List (Nat × Nat)) (E : ax_E) (rf : List (Nat × Nat × Nat)) : Option ax_E := List.rec (motive := fun _ => Option ax_E) (some E) (fun x _ ih => match ax_lk m x.1 with
  | some v => ax_bind ih (fun E1 => ax_refine E1 v x.2.1 x.2.2)
  | none => ih) rf
noncomputable def ax_rfo (m : List (Nat × Nat)) (rf : List (Nat × Nat × Nat)) (os : List ax_E) : List ax_E := List.rec (motive := fun _ => List ax_E) [] (fun o _ ih => match ax_rfs m o rf with
  | some E => E :: ih
  | none => ih) os
noncomputable def ax_rl1 (w : ax_W) (r : ax_RL) (a : ax_A) : Option (List ax_E) := match ax_match w a.2.2.2 0 r.2.1 (ax_mask r.2.1.1 (a.2.1 ++ a.2.2.1)) with
  | some m => (match ax_rpos w a.2.2.2 m (ax_n r.2.1.2) r.2.2.1 with
    | some os => some (ax_rfo m r.2.2.2 os)
    | none => none)
  | none => none
noncomputable def ax_rlf (f : ax_A → List ax_A) (a : ax_A) (es : List ax_E) : List ax_A := List.rec (motive := fun _ => List ax_A) [] (fun E _ ih => f (a.1, a.2.1, a.2.2.1, E) ++ ih) es
noncomputable def ax_rls (w : ax_W) (rl : List ax_RL) : ax_A → List ax_A := List.rec (motive := fun _ => ax_A → List ax_A) (fun a => [a]) (fun r _ ih a => bif Nat.beq r.1 a.1 then (match ax_rl1 w r a with
  | some es => ax_rlf ih a es
  | none => ih a) else ih a) rl
theorem ax_mask_ev {n : Nat} {ρ : Nat → Nat} : ∀ {ts vs xs : List Nat}, vs.map (ax_ev n ρ) = xs.map some → (ax_mask ts vs).map (ax_ev n ρ) = (ax_mask ts xs).map some
  | [], vs, xs, h => h
  | t :: ts, [], [], _ => rfl
  | t :: ts, [], _ :: _, h => by cases h
  | t :: ts, _ :: _, [], h => by cases h
  | t :: ts, v :: vs, x :: xs, h => by
    obtain ⟨x', r', e, hx, h⟩ := ax_evs_cons h
    cases e
    show List.map _ ((bif Nat.beq t 2 then 2 else v) :: ax_mask ts vs) = List.map some ((bif Nat.beq t 2 then 2 else x) :: ax_mask ts xs)
    refine ax_evs_push ?_ (ax_mask_ev h)
    cases Nat.beq t 2 with
    | true => exact ax_ev_c (v := 2) (by decide)
    | false => exact hx
section AXR
variable {w : ax_W} {X : ax_X} {ρ : Nat → Nat} {hp : rx_H}
/-- a rule is right -/
noncomputable def ax_RO (w : ax_W) (X : ax_X) (r : ax_RL) : Prop := ∀ (ρ : Nat → Nat) (hp : rx_H), ax_EO w X ρ r.2.1.2 hp → ax_HT w hp → (∀ x ∈ r.2.2.2, x.2.1 ≤ rx_bi (ρ x.1 / 4) ∧ rx_bi (ρ x.1 / 4) ≤ x.2.2) ∧ ∃ po ∈ r.2.2.1, ∃ ρ' : Nat → Nat, (∀ k, k < ax_n r.2.1.2 → ρ' k = ρ k) ∧ ax_EO w X ρ' po.2 hp
theorem ax_rlf_in {f : ax_A → List ax_A} {a a1 : ax_A} : ∀ {es : List ax_E} {E : ax_E}, E ∈ es → a1 ∈ f (a.1, a.2.1, a.2.2.1, E) → a1 ∈ ax_rlf f a es
  | [], _, h, _ => by cases h
  | p :: es, E, h, h1 => by
    show a1 ∈ f (a.1, a.2.1, a.2.2.1, p) ++ ax_rlf f a es
    rcases List.mem_cons.mp h with rfl | h
    · exact List.mem_append_left _ h1
    · exact List.mem_append_right _ (ax_rlf_in h h1)
theorem ax_rfs_ok {E : ax_E} {m : List (Nat × Nat)} (hE : ax_EO w X ρ E hp) : ∀ {rf : List (Nat × Nat × Nat)}, (∀ x ∈ rf, ∀ v, ax_lk m x.1 = some v → ∃ y, ax_ev E.1 ρ v = some y ∧ x.2.1 ≤ rx_bi (y / 4) ∧ rx_bi (y / 4) ≤ x.2.2) → ∃ E', ax_rfs m E rf = some E' ∧ ax_EO w X ρ E' hp ∧ ax_Sm E E'
  | [], _ => ⟨E, rfl, hE, ax_Sm.rf⟩
  | x :: rf, h => by
    obtain ⟨E1, f1, f2, f3⟩ := ax_rfs_ok hE (rf := rf) (fun y hy => h y (List.mem_cons_of_mem _ hy))
    show ∃ E', (match ax_lk m x.1 with
      | some v => ax_bind (ax_rfs m E rf) (fun E1 => ax_refine E1 v x.2.1 x.2.2)
      | none => ax_rfs m E rf) = some E' ∧ _
    cases e : ax_lk m x.1 with
    | none => exact ⟨E1, f1, f2, f3⟩
    | some v =>
      obtain ⟨y, hy, h1, h2⟩ := h x List.mem_cons_self v e
      obtain ⟨E2, g1, g2, g3⟩ := ax_refine_ok f2 (by rw [f3.1]; exact hy) h1 h2
      refine ⟨E2, ?_, g2, f3.tr g3⟩
      show ax_bind (ax_rfs m E rf) (fun E1 => ax_refine E1 v x.2.1 x.2.2) = some E2
      rw [f1]
      exact g1
theorem ax_rfo_in {m : List (Nat × Nat)} {rf : List (Nat × Nat × Nat)} {E' : ax_E} : ∀ {os : List ax_E} {o : ax_E}, o ∈ os → ax_rfs m o rf = some E' → E' ∈ ax_rfo m rf os
  | [], _, h, _ => by cases h
  | p :: os, o, h, h1 => by
    show E' ∈ (match ax_rfs m p rf with
      | some E => E :: ax_rfo m rf os
      | none => ax_rfo m rf os)
    rcases List.mem_cons.mp h with rfl | h
    · rw [h1]
      exact List.mem_cons_self
    · have ih := ax_rfo_in h h1
      cases ax_rfs m p rf with
      | some E => exact List.mem_cons_of_mem _ ih
      | none => exact ih
theorem ax_rl1_ok (hX : ax_XD w X) {r : ax_RL} (hr : ax_RO w X r) {a : ax_A} {σ : rx_S} (hR : ax_R w X ρ a hp σ) {es : List ax_E} (h : ax_rl1 w r a = some es) : ∃ E ∈ es, ∃ ρ' : Nat → Nat, (∀ k, k < a.2.2.2.1 → ρ' k = ρ k) ∧ a.2.2.2.1 ≤ E.1 ∧ ax_R w X ρ' (a.1, a.2.1, a.2.2.1, E) hp σ := by
  obtain ⟨R1, R2, R3, R4, R5, R6⟩ := hR
  unfold ax_rl1 at h
  cases em : ax_match w a.2.2.2 0 r.2.1 (ax_mask r.2.1.1 (a.2.1 ++ a.2.2.1)) with
  | none => rw [em] at h; cases h
  | some m =>
    rw [em] at h
    dsimp only at h
    cases ep : ax_rpos w a.2.2.2 m (ax_n r.2.1.2) r.2.2.1 with
    | none => rw [ep] at h; cases h
    | some os =>
      rw [ep] at h
      cases h
      have hvs : (a.2.1 ++ a.2.2.1).map (ax_ev a.2.2.2.1 ρ) = (σ.2.1 ++ σ.2.2.1).map some := by
        rw [List.map_append, List.map_append, R2, R3]
      have hvm := ax_mask_ev (ts := r.2.1.1) hvs
      obtain ⟨m1, m2, m3⟩ := ax_match_ok R5 hvm em
      have me := ax_match_me R5 hvm em
      obtain ⟨hrf, po, hpo, ρ1, g1, g2⟩ := hr _ hp m2 R6
      obtain ⟨E', hz, hz2⟩ := ax_rpos_ok ep po hpo
      obtain ⟨k2, k3, k5⟩ := ax_rpo_ok R5 me g1 g2 hz2
      obtain ⟨E2, q1, q2, q3⟩ := ax_rfs_ok (m := m) (rf := r.2.2.2) k5 (fun x hx v hv => by
        obtain ⟨y, hy⟩ := me x.1 v hv
        refine ⟨y, ax_ev_mono k2 k3 hy, ?_⟩
        have e : ax_rm 0 m a.2.2.2.1 ρ x.1 = y := by
          unfold ax_rm
          rw [if_neg (Nat.not_lt_zero _), hv]
          show (ax_ev a.2.2.2.1 ρ v).getD 0 = y
          rw [hy]
          rfl
        have := hrf x hx
        rw [e] at this
        exact this)
      have k2' : a.2.2.2.1 ≤ E2.1 := by rw [q3.1]; exact k2
      exact ⟨E2, ax_rfo_in hz q1, _, k3, k2', ⟨R1, ax_evs_mono k2' k3 R2, ax_evs_mono k2' k3 R3, R4, q2, R6⟩⟩
/-- rules, one after the other -/
theorem ax_rls_ok (hX : ax_XD w X) : ∀ {rl : List ax_RL}, (∀ r ∈ rl, ax_RO w X r) → ∀ {ρ : Nat → Nat} {a : ax_A} {σ : rx_S}, ax_R w X ρ a hp σ → ∃ a1 ∈ ax_rls w rl a, ∃ ρ' : Nat → Nat, (∀ k, k < a.2.2.2.1 → ρ' k = ρ k) ∧ a.2.2.2.1 ≤ a1.2.2.2.1 ∧ ax_R w X ρ' a1 hp σ
  | [], _, ρ, a, σ, hR => ⟨a, List.mem_cons_self, ρ, fun _ _ => rfl, Nat.le_refl _, hR⟩
  | r :: rl, hrl, ρ, a, σ, hR => by
    show ∃ a1 ∈ (bif Nat.beq r.1 a.1 then (match ax_rl1 w r a with
      | some es => ax_rlf (ax_rls w rl) a es
      | none => ax_rls w rl a) else ax_rls w rl a), _
    have nxt : ∀ {ρ : Nat → Nat} {a : ax_A}, ax_R w X ρ a hp σ → ∃ a1 ∈ ax_rls w rl a, ∃ ρ' : Nat → Nat, (∀ k, k < a.2.2.2.1 → ρ' k = ρ k) ∧ a.2.2.2.1 ≤ a1.2.2.2.1 ∧ ax_R w X ρ' a1 hp σ := fun hR => ax_rls_ok hX (fun r' h' => hrl r' (List.mem_cons_of_mem _ h')) hR
    cases hb : Nat.beq r.1 a.1 with
    | false => exact nxt hR
    | true =>
      rw [cond_true]
      cases e : ax_rl1 w r a with
      | none => exact nxt hR
      | some es =>
        obtain ⟨E, ho, ρ1, g1, g2, g3⟩ := ax_rl1_ok hX (hrl r List.mem_cons_self) hR e
        obtain ⟨a1, h1, ρ2, k1, k2, k3⟩ := nxt g3
        exact ⟨a1, ax_rlf_in ho h1, ρ2, fun k hk => (k1 k (Nat.lt_of_lt_of_le hk g2)).trans (g1 k hk), Nat.le_trans g2 k2, k3⟩
end AXR
