section AXC
variable {w : ax_W} {X : ax_X} {md : List (Nat × Nat)} {hp0 : rx_H} {P : List rx_M} {K : rx_K} {AP : List ax_M} {l : Launch} {cy : Nat → ClassId} {D : va_G} {r : rx_M} {B : Nat} {Po : rx_O → Prop} {ρ0 : Nat → Nat} {n0 : Nat}
noncomputable def ax_good (w : ax_W) (X : ax_X) (md : List (Nat × Nat)) (hp0 : rx_H) (P : List rx_M) (K : rx_K) (r : rx_M) (Po : rx_O → Prop) (f : Nat) (ρ : Nat → Nat) (t : ax_G) : Prop := ax_wf t ∧ ax_fz f t ∧ ax_TV w X md hp0 P K r Po ρ t
theorem ax_good.up {f f' : Nat} {ρ ρ' : Nat → Nat} {t : ax_G} (h : ax_good w X md hp0 P K r Po f ρ t) (hf : f ≤ f') (ha : ∀ k, k < f → ρ' k = ρ k) : ax_good w X md hp0 P K r Po f' ρ' t :=
  ⟨h.1, ⟨Nat.le_trans h.2.1.1 hf, fun hn => Nat.lt_of_lt_of_le (h.2.1.2 hn) hf⟩, h.2.2.ag h.2.1 ha⟩
/-- LOOPS END -/
theorem ax_ck_ok {blk : List ax_G → ax_A → Bool} (HB : ∀ (tg : List ax_G) (a : ax_A), blk tg a = true → ∀ (ρ : Nat → Nat) (hp : rx_H) (σ : rx_S), ax_R w X ρ a hp σ → ax_HR w md hp0 hp → n0 ≤ a.2.2.2.1 → (∀ k, k < n0 → ρ k = ρ0 k) → (∀ t ∈ tg, ax_good w X md hp0 P K r Po a.2.2.2.1 ρ t) → ax_Wp P K r σ Po) :
    ∀ (d f : Nat) (tg : List ax_G) (tr : ax_Tr d) (tl : List ax_G), ax_ck blk d f tg tr = some tl → n0 ≤ f → ∀ ρ : Nat → Nat, (∀ k, k < n0 → ρ k = ρ0 k) → (∀ t ∈ tg, ax_good w X md hp0 P K r Po f ρ t) → ∀ t ∈ tl, ax_good w X md hp0 P K r Po f ρ t
  | 0, f, tg, tr, tl, h, _, ρ, _, _ => by
    replace h : some [] = some tl := h
    cases h
    intro t ht
    cases ht
  | d + 1, f, tg, tr, tl, h, hn0, ρ, hρ, htg => by
    have gen : ∀ (tr : List ((Nat × Nat × Nat × ax_T) × ax_Tr d)) (tl : List ax_G), ax_ckL blk (ax_ck blk d) f tg tr = some tl → ∀ t ∈ tl, ax_good w X md hp0 P K r Po f ρ t := by
      intro tr
      induction tr with
      | nil =>
        intro tl h
        replace h : some [] = some tl := h
        cases h
        intro t ht
        cases ht
      | cons hd rest ihl =>
        intro tl h
        obtain ⟨⟨pc, fl, kk, T⟩, sub⟩ := hd
        replace h : ax_ckS blk (ax_ck blk d) f tg ((pc, fl, kk, T), sub) (ax_ckL blk (ax_ck blk d) f tg rest) = some tl := h
        generalize ax_ckL blk (ax_ck blk d) f tg rest = later at h ihl
        cases later with
        | none => cases h
        | some tl' =>
          have gtl := ihl tl' rfl
          replace h : (match ax_ck blk d T.2.1 ((bif Nat.beq fl 0 then [] else [(pc, f, fl, kk, T)]) ++ (tl' ++ tg)) sub with
            | some inner => bif Nat.ble f T.2.1 && (((Nat.beq fl 0 || Nat.ble f kk) && (Nat.ble fl 3 && Nat.blt kk T.2.1)) && blk (inner ++ ((bif Nat.beq fl 0 then [] else [(pc, f, fl, kk, T)]) ++ (tl' ++ tg))) (pc, T.1, [], T.2)) then some ((pc, f, 0, 0, T) :: tl') else none
            | none => none) = some tl := h
          cases hin : ax_ck blk d T.2.1 ((bif Nat.beq fl 0 then [] else [(pc, f, fl, kk, T)]) ++ (tl' ++ tg)) sub with
          | none => rw [hin] at h; cases h
          | some inner =>
            rw [hin] at h
            dsimp only at h
            obtain ⟨hc, h⟩ := rx_cond h
            have h := Option.some.inj h
            subst h
            obtain ⟨c1, hc⟩ := rx_and2.mp hc
            obtain ⟨c2, c3⟩ := rx_and2.mp hc
            obtain ⟨c4, c5⟩ := rx_and2.mp c2
            obtain ⟨c5, c6⟩ := rx_and2.mp c5
            have c1 : f ≤ T.2.1 := rx_ble.mp c1
            have c5 : fl ≤ 3 := rx_ble.mp c5
            have c6 : kk < T.2.1 := rx_blt.mp c6
            have claim : ∀ (N : Nat) (ρ' : Nat → Nat) (hp' : rx_H) (σ' : rx_S), (∀ k, k < f → ρ' k = ρ k) → ax_R w X ρ' (pc, T.1, [], T.2) hp' σ' → ax_HR w md hp0 hp' → ax_mu ρ' fl kk < N → ax_Wp P K r σ' Po := by
              intro N
              induction N with
              | zero => intro ρ' hp' σ' _ _ _ hm; exact absurd hm (Nat.not_lt_zero _)
              | succ N ihN =>
                intro ρ' hp' σ' ha hR hH hm
                have hρ' : ∀ k, k < n0 → ρ' k = ρ0 k := fun k hk => (ha k (Nat.lt_of_lt_of_le hk hn0)).trans (hρ k hk)
                have base : ∀ t ∈ (bif Nat.beq fl 0 then [] else [((pc, f, fl, kk, T) : ax_G)]) ++ (tl' ++ tg), ax_good w X md hp0 P K r Po T.2.1 ρ' t := by
                  intro t ht
                  rcases List.mem_append.mp ht with ht | ht
                  · cases hf0 : Nat.beq fl 0 with
                    | true => rw [hf0] at ht; cases ht
                    | false =>
                      rw [hf0, cond_false] at ht
                      cases List.mem_singleton.mp ht
                      have hne : fl ≠ 0 := fun z => by rw [z] at hf0; cases hf0
                      have hfk : f ≤ kk := by
                        rw [hf0, Bool.false_or] at c4
                        exact rx_ble.mp c4
                      refine ⟨Or.inr ⟨by show fl = 1 ∨ fl = 2 ∨ fl = 3; omega, hfk⟩, ⟨c1, fun _ => c6⟩, ?_⟩
                      intro ρ2 hp2 σ2 h1 h2 h3 h4
                      have h4 : ax_mu ρ2 fl kk < ax_mu ρ' fl kk := h4 hne
                      exact ihN ρ2 hp2 σ2 (fun k hk => (h1 k hk).trans (ha k hk)) h2 h3 (by omega)
                  · rcases List.mem_append.mp ht with ht | ht
                    · exact (gtl t ht).up c1 ha
                    · exact (htg t ht).up c1 ha
                refine HB _ _ c3 ρ' hp' σ' hR hH (Nat.le_trans hn0 c1) hρ' (fun t ht => ?_)
                rcases List.mem_append.mp ht with ht | ht
                · exact ax_ck_ok HB d T.2.1 _ sub inner hin (Nat.le_trans hn0 c1) ρ' hρ' base t ht
                · exact base t ht
            intro t ht
            rcases List.mem_cons.mp ht with rfl | ht
            · exact ⟨Or.inl rfl, ⟨Nat.le_refl _, fun hn => absurd rfl hn⟩, fun ρ' hp' σ' h1 h2 h3 _ => claim _ ρ' hp' σ' h1 h2 h3 (Nat.lt_succ_self _)⟩
            · exact gtl t ht
    exact gen tr tl h
/-- A CONTRACT THAT IS CHECKED HOLDS -/
theorem ax_chk_ok (hP : ∀ q ∈ P, rx_QW q ∧ rx_ST P K q) (hX : ax_XD w X) (hr : r ∈ P) (hA : ax_Low w X P AP P K (rx_rf (rx_n r))) {cd : List (List ax_I)} (htab : ax_tab r cd) {C : ax_C} {rl : List ax_RL} (hrl : ∀ x ∈ rl, ax_RO w X x) {sp : List Nat} {n d : Nat} {tr : ax_Tr d} (h : ax_chk w P K AP (rx_n r) cd C rl sp n d tr = true) : ax_Con w X P K r C := by
  unfold ax_chk at h
  cases hck : ax_ck (ax_blk w P K AP C.2.1 (rx_n r) cd (ax_n C.1.2) C.2.2 rl sp n) d (ax_n C.1.2) [] tr with
  | none => rw [hck] at h; cases h
  | some tl =>
    rw [hck] at h
    obtain ⟨h1, h2⟩ := rx_and2.mp h
    have hps : ∀ po ∈ C.2.2, ∃ v, po.1 = [v] := by
      intro po hpo
      have := List.all_eq_true.mp h2 po hpo
      match hp1 : po.1, this with
      | [], this => cases this
      | [v], _ => exact ⟨v, rfl⟩
      | _ :: _ :: _, this => cases this
    intro ρ hp as has hE hT
    have HB : ∀ (tg : List ax_G) (a : ax_A), ax_blk w P K AP C.2.1 (rx_n r) cd (ax_n C.1.2) C.2.2 rl sp n tg a = true → ∀ (ρ' : Nat → Nat) (hp' : rx_H) (σ : rx_S), ax_R w X ρ' a hp' σ → ax_HR w C.2.1 hp hp' → ax_n C.1.2 ≤ a.2.2.2.1 → (∀ k, k < ax_n C.1.2 → ρ' k = ρ k) → (∀ t ∈ tg, ax_good w X C.2.1 hp P K r (ax_PO w X C.2.1 hp (ax_n C.1.2) C.2.2 ρ) a.2.2.2.1 ρ' t) → ax_Wp P K r σ (ax_PO w X C.2.1 hp (ax_n C.1.2) C.2.2 ρ) := by
      intro tg a hb ρ' hp' σ hR hH hn hρ htg
      exact ax_blk_ok hP hX hA hr (Nat.le_refl _) htab hrl hb hps hR hH hn hρ (fun t ht => ⟨(htg t ht).1, (htg t ht).2.1.1, (htg t ht).2.1, (htg t ht).2.2⟩)
    have gtl := ax_ck_ok (n0 := ax_n C.1.2) (ρ0 := ρ) HB d (ax_n C.1.2) [] tr tl hck (Nat.le_refl _) ρ (fun _ _ => rfl) (fun t ht => by cases ht)
    exact HB tl _ h1 ρ hp _ ⟨rfl, ax_args_ok hE has, rfl, rfl, hE, hT⟩ ax_HR.rf (Nat.le_refl _) (fun _ _ => rfl) gtl
end AXC
