/-! fx: calls run inline -/
noncomputable def fx_tg4 (rk : Nat) : Nat := bif Nat.beq rk 3 then 1 else bif Nat.beq rk 4 then 2 else 0
abbrev fx_HH : Type := Nat → List fx_V → fx_F → (fx_V → fx_F → Prop) → Prop
noncomputable def fx_H0 (SG : List (Nat × Nat × Nat)) (C : fx_C) : fx_HH := fun na as F Kt => match rx_nth SG na with
  | some s => (bif Nat.beq s.2.1 0 then ∃ F' : fx_F, C na as F (2, 0) F' ∧ Kt (2, 0) F' else ∃ (n : Nat) (F' : fx_F), C na as F (fx_tg4 s.2.1, n) F' ∧ Kt (fx_tg4 s.2.1, n) F')
  | none => True
noncomputable def fx_ci (HH : fx_HH) (NX : fx_N) (na rk pc : Nat) (lv : List fx_V) (F : fx_F) (q : Option (List fx_V × List fx_V)) : Prop := match q with
  | some (as, rest) => HH na as F (fun v F' => NX (Nat.add pc 3) lv (bif Nat.beq rk 0 then rest else v :: rest) F')
  | none => True
noncomputable def fx_gi2 (SG : List (Nat × Nat × Nat)) (HH : fx_HH) (NX : fx_N) (R : fx_V → fx_F → Prop) (x : ax_I) (pc : Nat) (lv st : List fx_V) (F : fx_F) : Prop :=
  bif Nat.ble x.2.1 29 then (match st with
    | [] => R (2, 0) F
    | v :: _ => R v F)
  else bif Nat.beq x.2.2.2.2.2.1 2 then (match st with
    | _ :: _ :: d :: _ :: q :: st' => NX (Nat.add pc 3) lv st' (fcp F q.2 d.2)
    | _ => True)
  else bif Nat.beq x.2.2.2.2.2.1 1 then True
  else bif Nat.beq (Nat.mod x.2.2.2.2.2.1 4) 1 then (bif Nat.beq x.2.1 31 then (match st with
    | y :: z :: st' => NX (Nat.add pc 3) lv ((0, bif Nat.beq x.2.2.2.2.2.1 5 then i_max z.2 y.2 else i_min z.2 y.2) :: st') F
    | _ => True) else fx_str NX x.2.2.2.2.2.1 pc lv st F)
  else (match rx_nth SG x.2.2.2.2.1 with
    | some s => fx_ci HH NX x.2.2.2.2.1 s.2.1 pc lv F (fx_spl (bif Nat.beq x.2.1 31 then s.1 else Nat.succ s.1) st [])
    | none => True)
noncomputable def fx_gi (w : ax_W) (FK : List (List Nat)) (FZ : List (List (Nat × Nat))) (SG : List (Nat × Nat × Nat)) (HH : fx_HH) (NX : fx_N) (R : fx_V → fx_F → Prop) (x : ax_I) (pc : Nat) (lv st : List fx_V) (F : fx_F) : Prop := bif Nat.ble x.2.1 25 then fx_go1 w FK FZ NX x pc lv st F else fx_gi2 SG HH NX R x pc lv st F
noncomputable def fx_Pk (w : ax_W) (FK : List (List Nat)) (FZ : List (List (Nat × Nat))) (SG : List (Nat × Nat × Nat)) (HH : fx_HH) (cd : List (List ax_I)) (hd : List (Nat × List Nat)) (G : fx_N) (R : fx_V → fx_F → Prop) (k : Nat) : fx_N := Nat.rec (motive := fun _ => fx_N) (fun _ _ _ _ => True) (fun _ ih pc lv st F => match ax_lookI cd pc with
  | some x => fx_gi w FK FZ SG HH (fx_nx hd G ih) R x x.1 lv st F
  | none => True) k
noncomputable def fx_Hd (w : ax_W) (FK : List (List Nat)) (FZ : List (List (Nat × Nat))) (SG : List (Nat × Nat × Nat)) (AP : List (List (List ax_I))) (IL : List Bool) (C : fx_C) (d : Nat) : fx_HH := Nat.rec (motive := fun _ => fx_HH) (fx_H0 SG C) (fun _ ih na as F Kt => match rx_nth IL na with
  | some true => (match rx_nth AP na with
    | some cd => (match rx_nth SG na with
      | some s => fx_Pk w FK FZ SG ih cd [] (fun _ _ _ _ => True) Kt 400 0 (fx_args as s.2.2) [] F
      | none => True)
    | none => True)
  | _ => fx_H0 SG C na as F Kt) d
section FXI
variable {w : ax_W} {FZ : List (List (Nat × Nat))} {P : List rx_M} {K : rx_K} {AP : List (List (List ax_I))} {SG : List (Nat × Nat × Nat)} {CV IL : List Bool}
/-- what calls are must follow from what they do -/
noncomputable def fx_Hok (w : ax_W) (FZ : List (List (Nat × Nat))) (P : List rx_M) (K : rx_K) (SG : List (Nat × Nat × Nat)) (CV : List Bool) (HH : fx_HH) : Prop := ∀ (na : Nat) (s : Nat × Nat × Nat) (as : List fx_V) (F F' : fx_F) (v : fx_V) (Kt : fx_V → fx_F → Prop), rx_nth SG na = some s → rx_nth CV na = some true → fx_E w FZ P K SG na as F v F' → (s.2.1 = 0 → v = (2, 0)) → (s.2.1 ≠ 0 → v.1 = fx_tg4 s.2.1) → Kt v F' → HH na as F Kt
theorem fx_H0_ok : fx_Hok w FZ P K SG CV (fx_H0 SG (fx_E w FZ P K SG)) := by
  intro na s as F F' v Kt hs _ hE h0 h1 hK
  unfold fx_H0
  rw [hs]
  dsimp only
  cases hb : Nat.beq s.2.1 0 with
  | true =>
    have := h0 (rx_beq.mp hb)
    subst this
    exact ⟨F', hE, hK⟩
  | false =>
    have hv := h1 (fun z => by rw [rx_beq.mpr z] at hb; cases hb)
    obtain ⟨t, n⟩ := v
    replace hv : t = fx_tg4 s.2.1 := hv
    subst hv
    exact ⟨n, F', hE, hK⟩
theorem fx_gi_ok {HH : fx_HH} (hHH : fx_Hok w FZ P K SG CV HH) {NX : fx_N} {R : fx_V → fx_F → Prop} {x : ax_I} {pc : Nat} {lv st : List fx_V} {F : fx_F} (hx : fx_okC CV x = true ∨ x.2.1 ≤ 29) (h : fx_go w K.2 FZ SG NX (fx_E w FZ P K SG) R x pc lv st F) : fx_gi w K.2 FZ SG HH NX R x pc lv st F := by
  unfold fx_go at h
  unfold fx_gi
  cases h25 : Nat.ble x.2.1 25 with
  | true => rw [h25] at h; exact h
  | false =>
    rw [h25, cond_false] at h
    rw [cond_false]
    unfold fx_go2 at h
    unfold fx_gi2
    cases h29 : Nat.ble x.2.1 29 with
    | true => rw [h29] at h; exact h
    | false =>
      rw [h29, cond_false] at h
      rw [cond_false]
      cases h2 : Nat.beq x.2.2.2.2.2.1 2 with
      | true => rw [h2] at h; exact h
      | false =>
        rw [h2, cond_false] at h
        rw [cond_false]
        cases h1 : Nat.beq x.2.2.2.2.2.1 1 with
        | true => trivial
        | false =>
          rw [h1, cond_false] at h
          rw [cond_false]
          cases h3 : Nat.beq (Nat.mod x.2.2.2.2.2.1 4) 1 with
          | true => rw [h3] at h; exact h
          | false =>
            rw [h3, cond_false] at h
            rw [cond_false]
            cases hs : rx_nth SG x.2.2.2.2.1 with
            | none => trivial
            | some s =>
              rw [hs] at h
              dsimp only at h ⊢
              have hcv : rx_nth CV x.2.2.2.2.1 = some true := by
                rcases hx with hx | hx
                · unfold fx_okC at hx
                  rw [h2, cond_false, h3, cond_false] at hx
                  cases hz : rx_nth CV x.2.2.2.2.1 with
                  | none => rw [hz] at hx; cases hx
                  | some b => rw [hz] at hx; rw [show b = true from hx]
                · rw [rx_ble.mpr hx] at h29; cases h29
              unfold fx_cl2 at h
              unfold fx_ci
              cases hq : fx_spl (bif Nat.beq x.2.1 31 then s.1 else Nat.succ s.1) st [] with
              | none => trivial
              | some q =>
                obtain ⟨as, rest⟩ := q
                rw [hq] at h
                dsimp only at h ⊢
                cases hb : Nat.beq s.2.1 0 with
                | true =>
                  rw [hb, cond_true] at h
                  obtain ⟨F', hE, hN⟩ := h
                  refine hHH _ s as F F' (2, 0) _ hs hcv hE (fun _ => rfl) (fun z => absurd (rx_beq.mp hb) z) ?_
                  exact hN
                | false =>
                  rw [hb, cond_false] at h
                  obtain ⟨n, F', hE, hN⟩ := h
                  refine hHH _ s as F F' (bif Nat.beq s.2.1 3 then 1 else bif Nat.beq s.2.1 4 then 2 else 0, n) _ hs hcv hE (fun z => by rw [rx_beq.mpr z] at hb; cases hb) (fun _ => rfl) ?_
                  exact hN
/-- instructions on, calls inline -/
theorem fx_Pk_ok (hA : fx_All w FZ P K AP SG CV) {HH : fx_HH} (hHH : fx_Hok w FZ P K SG CV HH) {i n : Nat} (hi : rx_nth CV i = some true) {cd : List (List ax_I)} (hcd : rx_nth AP i = some cd) {hd : List (Nat × List Nat)} {v : fx_V} {F' : fx_F} {G : fx_N} (hG : ∀ (m pc : Nat) (lv st : List fx_V) (F : fx_F), m < n → fx_R w FZ P K m i pc lv st F v F' → G pc lv st F) {R : fx_V → fx_F → Prop} (hR : R v F') : ∀ (k n' : Nat), n' ≤ n → ∀ (pc : Nat) (lv st : List fx_V) (F : fx_F), fx_R w FZ P K n' i pc lv st F v F' → fx_Pk w K.2 FZ SG HH cd hd G R k pc lv st F
  | 0, _, _, _, _, _, _, _ => trivial
  | k + 1, 0, _, pc, lv, st, F, h => by
    obtain ⟨q, lc, sc, hp, o, h1, h2, h3, h4, h5, h6, h7, h8, h9, h10⟩ := h
    cases h8
  | k + 1, n' + 1, hn, pc, lv, st, F, h => by
    obtain ⟨q, lc, sc, hp, o, h1, h2, h3, h4, h5, h6, h7, h8, h9, h10⟩ := h
    obtain ⟨x, hx, hS⟩ := fx_step hA (f := rx_run P K n') (fx_A hA n') hi h1 hcd h2 h3 h4 h8
    show (match ax_lookI cd pc with
      | some x => fx_gi w K.2 FZ SG HH (fx_nx hd G (fx_Pk w K.2 FZ SG HH cd hd G R k)) R x x.1 lv st F
      | none => True)
    rw [hx]
    dsimp only
    rw [(ax_lookI_ok hx).2]
    subst h6
    subst h7
    have hok : fx_okC CV x = true ∨ x.2.1 ≤ 29 := by
      obtain ⟨hFZ, hn2, hP, hall⟩ := hA
      obtain ⟨q', cd', s, e1, e2, e3, hcov⟩ := hall i hi
      rw [h1] at e1
      cases e1
      rw [hcd] at e2
      cases e2
      obtain ⟨v1, hcov⟩ := rx_and2.mp hcov
      obtain ⟨v2, hcov⟩ := rx_and2.mp hcov
      obtain ⟨v3, hcov⟩ := rx_and2.mp hcov
      obtain ⟨v4, hcov⟩ := rx_and2.mp hcov
      obtain ⟨v5, hcov⟩ := rx_and2.mp hcov
      replace h8 : rx_go P K (rx_run P K n') (rx_run P K n') (fun o => some [o]) q (pc, lc, sc, hp, [], 0, 0) = some [o] := h8
      unfold rx_go at h8
      dsimp only at h8
      cases hlk : rx_look (rx_cd q) pc with
      | none => rw [hlk] at h8; cases h8
      | some y =>
        obtain ⟨⟨ch, hc1, hc2⟩, hpc⟩ := rx_look_ok hlk
        have hy := List.all_eq_true.mp (List.all_eq_true.mp hcov ch hc1) y hc2
        unfold fx_cov1 at hy
        rw [hpc, hx] at hy
        obtain ⟨_, hy⟩ := rx_and2.mp hy
        obtain ⟨_, hy⟩ := rx_and2.mp hy
        obtain ⟨_, hy⟩ := rx_and2.mp hy
        rcases ax_condY hy with ⟨z, _⟩ | ⟨_, hy⟩
        · exact Or.inr (by have := rx_ble.mp z; omega)
        rcases ax_condY hy with ⟨z, _⟩ | ⟨_, hy⟩
        · exact Or.inr (rx_ble.mp z)
        · exact Or.inl hy
    refine fx_gi_ok hHH hok ?_
    rcases hS with ⟨σ, ⟨w1, w2, w3, w4⟩, hc, hf, hgo⟩ | ⟨v', hl, hv, hgo⟩
    · refine hgo _ _ _ lv ?_ h5 ?_
      · intro j q2 as hp2 o2 hj hq2 was hH2 hrun
        obtain ⟨q3, cd3, s3, e1, e2, e3, hcov⟩ := hA.2.2.2 j hj
        rw [hq2] at e1
        cases e1
        obtain ⟨_, hcov⟩ := rx_and2.mp hcov
        obtain ⟨_, hcov⟩ := rx_and2.mp hcov
        obtain ⟨_, hcov⟩ := rx_and2.mp hcov
        obtain ⟨_, hcov⟩ := rx_and2.mp hcov
        obtain ⟨v5, hcov⟩ := rx_and2.mp hcov
        have v5 : s3.2.2 = rx_mL (rx_n q2) := rx_beq.mp v5
        refine ⟨n', s3, e3, q2, _, [], hp2, o2, hq2, fx_args_ws was, fun x hx => (by cases hx), hH2, ?_, rfl, rfl, hrun, rfl, rfl⟩
        rw [v5]
        exact fx_args_L
      · intro lv' hL'
        obtain ⟨p, a, b, hp', rest⟩ := σ
        replace w4 : rest = ([], 0, 0) := w4
        subst w4
        have hR2 : ∀ lv2, fx_L lv2 a → fx_R w FZ P K n' i p lv2 (b.map fx_d) (fx_hp hp') v F' := fun lv2 hL2 => ⟨q, a, b, hp', o, h1, w1, w2, w3, hL2, rfl, rfl, hf, h9, h10⟩
        unfold fx_nx
        cases hh : fx_hd hd p with
        | none => exact fx_Pk_ok hA hHH hi hcd hG hR k n' (by omega) p lv' _ _ (hR2 lv' hL')
        | some m => exact hG n' _ _ _ _ (by omega) (hR2 _ (fx_mask_L hL'))
    · refine hgo _ _ _ lv ?_
      cases hl
      have e1 : fx_d v' = v := h9
      have e2 : fx_hp hp = F' := h10
      rw [e1, e2]
      exact hR
theorem fx_Hd_ok (hA : fx_All w FZ P K AP SG CV) : ∀ d, fx_Hok w FZ P K SG CV (fx_Hd w K.2 FZ SG AP IL (fx_E w FZ P K SG) d)
  | 0 => fx_H0_ok
  | d + 1 => by
    intro na s as F F' v Kt hs hcv hE h0 h1 hK
    show (match rx_nth IL na with
      | some true => (match rx_nth AP na with
        | some cd => (match rx_nth SG na with
          | some s => fx_Pk w K.2 FZ SG (fx_Hd w K.2 FZ SG AP IL (fx_E w FZ P K SG) d) cd [] (fun _ _ _ _ => True) Kt 400 0 (fx_args as s.2.2) [] F
          | none => True)
        | none => True)
      | _ => fx_H0 SG (fx_E w FZ P K SG) na as F Kt)
    have base := fx_H0_ok na s as F F' v Kt hs hcv hE h0 h1 hK
    cases hil : rx_nth IL na with
    | none => exact base
    | some b =>
      cases b with
      | false => exact base
      | true =>
        dsimp only
        cases hap : rx_nth AP na with
        | none => trivial
        | some cd =>
          dsimp only
          rw [hs]
          dsimp only
          obtain ⟨n, s2, e1, hR⟩ := hE
          rw [hs] at e1
          cases e1
          exact fx_Pk_ok hA (fx_Hd_ok hA d) hcv hap (n := n) (fun _ _ _ _ _ _ _ => trivial) hK 400 n (Nat.le_refl n) 0 _ [] F hR
end FXI
