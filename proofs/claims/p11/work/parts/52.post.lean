noncomputable def ax_ps (n0 En : Nat) (m : List (Nat × Nat)) (t : Nat) : Option Nat := bif Nat.beq (rx_tk t) 3 then (bif Nat.blt (rx_pl t) n0 then ax_lk m (rx_pl t) else some (ax_sym (Nat.add En (Nat.sub (rx_pl t) n0)))) else some t
noncomputable def ax_psf (n0 En : Nat) (m : List (Nat × Nat)) (fs : List (Nat × Nat × Nat)) : Option (List (Nat × Nat × Nat)) := List.rec (motive := fun _ => Option (List (Nat × Nat × Nat))) (some []) (fun x _ ih => match ax_ps n0 En m x.1, ax_ps n0 En m x.2.1, ax_ps n0 En m x.2.2, ih with
  | some a, some i, some v, some r => some ((a, i, v) :: r)
  | _, _, _, _ => none) fs
noncomputable def ax_psl (n0 En : Nat) (m : List (Nat × Nat)) (l : List Nat) : Option (List Nat) := List.rec (motive := fun _ => Option (List Nat)) (some []) (fun x _ ih => match ax_ps n0 En m x, ih with
  | some a, some r => some (a :: r)
  | _, _ => none) l
noncomputable def ax_psx (n0 En : Nat) (m : List (Nat × Nat)) (xf : List ax_N) : Option (List ax_N) := List.rec (motive := fun _ => Option (List ax_N)) (some []) (fun x _ ih => match ax_psl n0 En m x.2, ih with
  | some a, some r => some ((x.1, a) :: r)
  | _, _ => none) xf
/-- what is still known behind a call that may write -/
noncomputable def ax_mkill (w : ax_W) (E : ax_E) (md : List (Nat × Nat)) : List (Nat × Nat × Nat) := (ax_fs E).filter (fun x => match ax_rg w E x.1 with
  | some g => !(md.any (fun y => Nat.beq y.1 g && (Nat.beq y.2 999 || (!(ax_cst x.2.1) || Nat.beq y.2 (rx_pl x.2.1)))))
  | none => false)
noncomputable def ax_post (w : ax_W) (E : ax_E) (m : List (Nat × Nat)) (n0 : Nat) (md : List (Nat × Nat)) (po : ax_T) : Option (Nat × ax_E) := match po.1 with
  | [r] => (match ax_ps n0 E.1 m r, ax_psf n0 E.1 m (ax_fs po.2) with
    | some rv, some fs => (match ax_psx n0 E.1 m (ax_xf po.2) with
      | some xs => bif Nat.ble n0 (ax_n po.2) && (Nat.beq (rx_len (ax_ty po.2)) (ax_n po.2) && ax_nil (ax_df po.2)) then some (rv, (Nat.add E.1 (Nat.sub (ax_n po.2) n0), List.take (Nat.sub (ax_n po.2) n0) (ax_ty po.2) ++ ax_ty E, fs ++ ax_mkill w E md, ax_df E, xs ++ ax_xkill w (ax_xf E) md)) else none
      | none => none)
    | _, _ => none)
  | _ => none
section AXP
variable {w : ax_W} {X : ax_X} {ρ ρ1 : Nat → Nat} {E : ax_E} {hp hp' : rx_H}
/-- the valuation behind a call -/
noncomputable def ax_rp (n0 En : Nat) (ρ ρ1 : Nat → Nat) (j : Nat) : Nat := if j < En then ρ j else ρ1 (n0 + (j - En))
theorem ax_rp_lt {n0 En j : Nat} (h : j < En) : ax_rp n0 En ρ ρ1 j = ρ j := if_pos h
theorem ax_ps_ok {n0 N : Nat} {m : List (Nat × Nat)} (hm : ax_me E.1 ρ m) (hρ : ∀ k, k < n0 → ρ1 k = ax_rm 0 m E.1 ρ k) {t u x : Nat} (h : ax_ps n0 E.1 m t = some u) (hx : ax_ev N ρ1 t = some x) : ax_ev (E.1 + (N - n0)) (ax_rp n0 E.1 ρ ρ1) u = some x := by
  unfold ax_ps at h
  unfold ax_ev at hx
  rcases ax_condY h with ⟨h3, h⟩ | ⟨h3, h⟩
  · have h3 : t % 4 = 3 := rx_beq.mp h3
    rw [if_pos h3] at hx
    by_cases hl : t / 4 < N
    · rw [if_pos hl] at hx
      cases hx
      rcases ax_condY h with ⟨hk, h⟩ | ⟨hk, h⟩
      · have hk : t / 4 < n0 := rx_blt.mp hk
        have h : ax_lk m (t / 4) = some u := h
        obtain ⟨y, hy⟩ := hm _ _ h
        have e : ρ1 (t / 4) = y := by
          rw [hρ _ hk]
          unfold ax_rm
          rw [if_neg (Nat.not_lt_zero _), h]
          show (ax_ev E.1 ρ u).getD 0 = y
          rw [hy]
          rfl
        rw [e]
        exact ax_ev_mono (Nat.le_add_right _ _) (fun k hk' => ax_rp_lt hk') hy
      · have hk : n0 ≤ t / 4 := Nat.not_lt.mp (fun z => by rw [rx_blt.mpr (show rx_pl t < n0 from z)] at hk; cases hk)
        cases h
        unfold ax_ev
        have e1 : ax_sym (Nat.add E.1 (Nat.sub (rx_pl t) n0)) % 4 = 3 := by show (4 * (E.1 + (t / 4 - n0)) + 3) % 4 = 3; omega
        have e2 : ax_sym (Nat.add E.1 (Nat.sub (rx_pl t) n0)) / 4 = E.1 + (t / 4 - n0) := by show (4 * (E.1 + (t / 4 - n0)) + 3) / 4 = _; omega
        rw [if_pos e1, e2, if_pos (by omega)]
        unfold ax_rp
        rw [if_neg (by omega), show n0 + (E.1 + (t / 4 - n0) - E.1) = t / 4 by omega]
    · rw [if_neg hl] at hx; cases hx
  · have h3 : t % 4 ≠ 3 := fun z => by rw [rx_beq.mpr (show rx_tk t = 3 from z)] at h3; cases h3
    rw [if_neg h3] at hx
    cases hx
    cases h
    exact ax_ev_c h3
theorem ax_psf_ok {n0 En : Nat} {m : List (Nat × Nat)} : ∀ {fs r : List (Nat × Nat × Nat)}, ax_psf n0 En m fs = some r → ∀ y ∈ r, ∃ x ∈ fs, ax_ps n0 En m x.1 = some y.1 ∧ ax_ps n0 En m x.2.1 = some y.2.1 ∧ ax_ps n0 En m x.2.2 = some y.2.2
  | [], r, h => by cases h; intro y hy; cases hy
  | x :: fs, r, h => by
    replace h : (match ax_ps n0 En m x.1, ax_ps n0 En m x.2.1, ax_ps n0 En m x.2.2, ax_psf n0 En m fs with
      | some a, some i, some v, some r => some ((a, i, v) :: r)
      | _, _, _, _ => none) = some r := h
    cases e1 : ax_ps n0 En m x.1 with
    | none => rw [e1] at h; cases h
    | some a =>
      cases e2 : ax_ps n0 En m x.2.1 with
      | none => rw [e1, e2] at h; cases h
      | some i =>
        cases e3 : ax_ps n0 En m x.2.2 with
        | none => rw [e1, e2, e3] at h; cases h
        | some v =>
          cases e4 : ax_psf n0 En m fs with
          | none => rw [e1, e2, e3, e4] at h; cases h
          | some r' =>
            rw [e1, e2, e3, e4] at h
            cases h
            intro y hy
            rcases List.mem_cons.mp hy with rfl | hy
            · exact ⟨x, List.mem_cons_self, e1, e2, e3⟩
            · obtain ⟨z, hz, q⟩ := ax_psf_ok e4 y hy
              exact ⟨z, List.mem_cons_of_mem _ hz, q⟩
theorem ax_psl_ok {n0 N : Nat} {m : List (Nat × Nat)} (hm : ax_me E.1 ρ m) (hρ : ∀ k, k < n0 → ρ1 k = ax_rm 0 m E.1 ρ k) : ∀ {l r xs : List Nat}, ax_psl n0 E.1 m l = some r → l.map (ax_ev N ρ1) = xs.map some → r.map (ax_ev (E.1 + (N - n0)) (ax_rp n0 E.1 ρ ρ1)) = xs.map some
  | [], r, xs, h, hx => by
    cases h
    exact hx
  | t :: l, r, xs, h, hx => by
    replace h : (match ax_ps n0 E.1 m t, ax_psl n0 E.1 m l with
      | some a, some r => some (a :: r)
      | _, _ => none) = some r := h
    cases e1 : ax_ps n0 E.1 m t with
    | none => rw [e1] at h; cases h
    | some a =>
      cases e2 : ax_psl n0 E.1 m l with
      | none => rw [e1, e2] at h; cases h
      | some r' =>
        rw [e1, e2] at h
        cases h
        obtain ⟨x, xs', e, hx1, hx2⟩ := ax_evs_cons hx
        subst e
        exact ax_evs_push (ax_ps_ok hm hρ e1 hx1) (ax_psl_ok hm hρ e2 hx2)
theorem ax_psx_ok {n0 N : Nat} {m : List (Nat × Nat)} (hm : ax_me E.1 ρ m) (hρ : ∀ k, k < n0 → ρ1 k = ax_rm 0 m E.1 ρ k) : ∀ {xf r : List ax_N}, ax_psx n0 E.1 m xf = some r → (∀ x ∈ xf, ax_NO X N ρ1 hp' x) → ∀ y ∈ r, ax_NO X (E.1 + (N - n0)) (ax_rp n0 E.1 ρ ρ1) hp' y
  | [], r, h, _ => by cases h; intro y hy; cases hy
  | x :: xf, r, h, hx => by
    replace h : (match ax_psl n0 E.1 m x.2, ax_psx n0 E.1 m xf with
      | some a, some r => some ((x.1, a) :: r)
      | _, _ => none) = some r := h
    cases e1 : ax_psl n0 E.1 m x.2 with
    | none => rw [e1] at h; cases h
    | some a =>
      cases e2 : ax_psx n0 E.1 m xf with
      | none => rw [e1, e2] at h; cases h
      | some r' =>
        rw [e1, e2] at h
        cases h
        intro y hy
        rcases List.mem_cons.mp hy with rfl | hy
        · obtain ⟨vs, g1, g2⟩ := hx x List.mem_cons_self
          exact ⟨vs, ax_psl_ok hm hρ e1 g1, g2⟩
        · exact ax_psx_ok hm hρ e2 (fun x' h' => hx x' (List.mem_cons_of_mem _ h')) y hy
/-- BEHIND A CALL by contract -/
theorem ax_post_ok (hX : ax_XD w X) (hE : ax_EO w X ρ E hp) {n0 : Nat} {m md : List (Nat × Nat)} {po : ax_T} {rv : Nat} {E' : ax_E} (hm : ax_me E.1 ρ m) (hρ : ∀ k, k < n0 → ρ1 k = ax_rm 0 m E.1 ρ k) (hpo : ax_EO w X ρ1 po.2 hp') (hr : ax_HR w md hp hp') (h : ax_post w E m n0 md po = some (rv, E')) :
    ∃ r, po.1 = [r] ∧ E.1 ≤ E'.1 ∧ (∀ k, k < E.1 → ax_rp n0 E.1 ρ ρ1 k = ρ k) ∧ (∀ x, ax_ev po.2.1 ρ1 r = some x → ax_ev E'.1 (ax_rp n0 E.1 ρ ρ1) rv = some x) ∧ ax_EO w X (ax_rp n0 E.1 ρ ρ1) E' hp' := by
  unfold ax_post at h
  match hp1 : po.1, h with
  | [], h => cases h
  | _ :: _ :: _, h => cases h
  | [r], h =>
    dsimp only at h
    cases e1 : ax_ps n0 E.1 m r with
    | none => rw [e1] at h; cases h
    | some rv' =>
      cases e2 : ax_psf n0 E.1 m (ax_fs po.2) with
      | none => rw [e1, e2] at h; cases h
      | some fs =>
        rw [e1, e2] at h
        dsimp only at h
        cases e3 : ax_psx n0 E.1 m (ax_xf po.2) with
        | none => rw [e3] at h; cases h
        | some xs =>
        rw [e3] at h
        dsimp only at h
        obtain ⟨hc, h⟩ := rx_cond h
        cases h
        obtain ⟨c1, hc⟩ := rx_and2.mp hc
        obtain ⟨c2, c3⟩ := rx_and2.mp hc
        have c1 : n0 ≤ po.2.1 := rx_ble.mp c1
        have ha : ∀ k, k < E.1 → ax_rp n0 E.1 ρ ρ1 k = ρ k := fun k hk => ax_rp_lt hk
        refine ⟨r, rfl, Nat.le_add_right _ _, ha, fun x hx => ax_ps_ok hm hρ e1 hx, ⟨?_, ?_, ?_, ?_, ?_⟩⟩
        · show (List.take (po.2.1 - n0) po.2.2.1 ++ E.2.1).length = E.1 + (po.2.1 - n0)
          rw [List.length_append, List.length_take, hpo.1, hE.1]
          omega
        · intro j t hj ht
          replace hj : j < E.1 + (po.2.1 - n0) := hj
          replace ht : (List.take (po.2.1 - n0) po.2.2.1 ++ E.2.1)[E.1 + (po.2.1 - n0) - 1 - j]? = some t := ht
          have hlen : (List.take (po.2.1 - n0) po.2.2.1).length = po.2.1 - n0 := by rw [List.length_take, hpo.1]; omega
          by_cases hl : j < E.1
          · rw [List.getElem?_append_right (by rw [hlen]; omega), hlen, show E.1 + (po.2.1 - n0) - 1 - j - (po.2.1 - n0) = E.1 - 1 - j by omega] at ht
            rw [ha j hl]
            exact hE.2.1 j t hl ht
          · rw [List.getElem?_append_left (by rw [hlen]; omega), List.getElem?_take_of_lt (by omega)] at ht
            have : ax_rp n0 E.1 ρ ρ1 j = ρ1 (n0 + (j - E.1)) := if_neg hl
            rw [this]
            refine hpo.2.1 _ t (by omega) ?_
            rw [show po.2.1 - 1 - (n0 + (j - E.1)) = E.1 + (po.2.1 - n0) - 1 - j by omega]
            exact ht
        · intro y hy
          rcases List.mem_append.mp hy with hy | hy
          · obtain ⟨x, hx, q1, q2, q3⟩ := ax_psf_ok e2 y hy
            obtain ⟨a, i, v, k, mm, l, g1, g2, g3, g4⟩ := hpo.2.2.1 x hx
            exact ⟨a, i, v, k, mm, l, ax_ps_ok hm hρ q1 g1, ax_ps_ok hm hρ q2 g2, ax_ps_ok hm hρ q3 g3, g4⟩
          · obtain ⟨hy1, hy2⟩ := List.mem_filter.mp hy
            obtain ⟨a, i, v, k, mm, l, g1, g2, g3, g4, g5, g6, g7, g8⟩ := hE.2.2.1 y hy1
            cases eg : ax_rg w E y.1 with
            | none => rw [eg] at hy2; cases hy2
            | some g =>
              rw [eg] at hy2
              dsimp only at hy2
              obtain ⟨-, -, -, hw⟩ := ax_rg_ok hE eg g1
              obtain ⟨l', hl', hsame⟩ := hr.2 _ _ hw _ _ _ g7
              have hmem : ax_mem md g (i / 4) = false := by
                refine Bool.eq_false_iff.mpr (fun z => ?_)
                obtain ⟨u, hu, hz⟩ := List.any_eq_true.mp z
                obtain ⟨z1, z2⟩ := rx_and2.mp hz
                have : md.any (fun y' => Nat.beq y'.1 g && (Nat.beq y'.2 999 || (!(ax_cst y.2.1) || Nat.beq y'.2 (rx_pl y.2.1)))) = true := by
                  refine List.any_eq_true.mpr ⟨u, hu, rx_and2.mpr ⟨z1, ?_⟩⟩
                  rcases rx_or2.mp z2 with z2 | z2
                  · cases hc : ax_cst y.2.1 with
                    | false => exact rx_or2.mpr (Or.inr rfl)
                    | true =>
                      have e := ax_cst_ev hc g2
                      subst e
                      exact rx_or2.mpr (Or.inr z2)
                  · exact rx_or2.mpr (Or.inl z2)
                rw [this] at hy2
                cases hy2
              refine ⟨a, i, v, k, mm, l', ax_ev_mono (Nat.le_add_right _ _) ha g1, ax_ev_mono (Nat.le_add_right _ _) ha g2, ax_ev_mono (Nat.le_add_right _ _) ha g3, g4, g5, g6, hl', ?_⟩
              rw [hsame _ hmem]
              exact g8
        · intro d hd
          exact (hE.2.2.2.1 d hd).mono (Nat.le_add_right _ _) ha
        · intro x hx
          rcases List.mem_append.mp hx with hx | hx
          · exact ax_psx_ok hm hρ e3 hpo.2.2.2.2 x hx
          · exact (ax_xkill_ok hX hE.2.2.2.2 hr x hx).mono (Nat.le_add_right _ _) ha
end AXP
/-- what is concluded: nothing is written -/
noncomputable def ax_rpo (w : ax_W) (E : ax_E) (m : List (Nat × Nat)) (n0 : Nat) (po : ax_T) : Option ax_E := match ax_psf n0 E.1 m (ax_fs po.2), ax_psx n0 E.1 m (ax_xf po.2) with
  | some fs, some xs => bif Nat.ble n0 (ax_n po.2) && (Nat.beq (rx_len (ax_ty po.2)) (ax_n po.2) && ax_nil (ax_df po.2)) then some (Nat.add E.1 (Nat.sub (ax_n po.2) n0), List.take (Nat.sub (ax_n po.2) n0) (ax_ty po.2) ++ ax_ty E, fs ++ ax_fs E, ax_df E, xs ++ ax_xf E) else none
  | _, _ => none
noncomputable def ax_rpos (w : ax_W) (E : ax_E) (m : List (Nat × Nat)) (n0 : Nat) (ps : List ax_T) : Option (List ax_E) := List.rec (motive := fun _ => Option (List ax_E)) (some []) (fun po _ ih => match ax_rpo w E m n0 po, ih with
  | some q, some r => some (q :: r)
  | _, _ => none) ps
theorem ax_rpos_ok {w : ax_W} {E : ax_E} {m : List (Nat × Nat)} {n0 : Nat} : ∀ {ps : List ax_T} {os : List ax_E}, ax_rpos w E m n0 ps = some os → ∀ po ∈ ps, ∃ q ∈ os, ax_rpo w E m n0 po = some q
  | [], os, _ => by intro po hpo; cases hpo
  | p :: ps, os, h => by
    replace h : (match ax_rpo w E m n0 p, ax_rpos w E m n0 ps with
      | some q, some r => some (q :: r)
      | _, _ => none) = some os := h
    cases e1 : ax_rpo w E m n0 p with
    | none => rw [e1] at h; cases h
    | some q =>
      cases e2 : ax_rpos w E m n0 ps with
      | none => rw [e1, e2] at h; cases h
      | some r =>
        rw [e1, e2] at h
        cases h
        intro po hpo
        rcases List.mem_cons.mp hpo with rfl | hpo
        · exact ⟨q, List.mem_cons_self, e1⟩
        · obtain ⟨z, hz, hz2⟩ := ax_rpos_ok e2 po hpo
          exact ⟨z, List.mem_cons_of_mem _ hz, hz2⟩
section AXQ
variable {w : ax_W} {X : ax_X} {ρ ρ1 : Nat → Nat} {E : ax_E} {hp : rx_H}
theorem ax_rpo_ok (hE : ax_EO w X ρ E hp) {n0 : Nat} {m : List (Nat × Nat)} {po : ax_T} {E' : ax_E} (hm : ax_me E.1 ρ m) (hρ : ∀ k, k < n0 → ρ1 k = ax_rm 0 m E.1 ρ k) (hpo : ax_EO w X ρ1 po.2 hp) (h : ax_rpo w E m n0 po = some E') :
    E.1 ≤ E'.1 ∧ (∀ k, k < E.1 → ax_rp n0 E.1 ρ ρ1 k = ρ k) ∧ ax_EO w X (ax_rp n0 E.1 ρ ρ1) E' hp := by
  unfold ax_rpo at h
  cases e2 : ax_psf n0 E.1 m (ax_fs po.2) with
  | none => rw [e2] at h; cases h
  | some fs =>
    cases e3 : ax_psx n0 E.1 m (ax_xf po.2) with
    | none => rw [e2, e3] at h; cases h
    | some xs =>
      rw [e2, e3] at h
      dsimp only at h
      obtain ⟨hc, h⟩ := rx_cond h
      cases h
      obtain ⟨c1, hc⟩ := rx_and2.mp hc
      have c1 : n0 ≤ po.2.1 := rx_ble.mp c1
      have ha : ∀ k, k < E.1 → ax_rp n0 E.1 ρ ρ1 k = ρ k := fun k hk => ax_rp_lt hk
      refine ⟨Nat.le_add_right _ _, ha, ⟨?_, ?_, ?_, ?_, ?_⟩⟩
      · show (List.take (po.2.1 - n0) po.2.2.1 ++ E.2.1).length = E.1 + (po.2.1 - n0)
        rw [List.length_append, List.length_take, hpo.1, hE.1]
        omega
      · intro j t hj ht
        replace hj : j < E.1 + (po.2.1 - n0) := hj
        replace ht : (List.take (po.2.1 - n0) po.2.2.1 ++ E.2.1)[E.1 + (po.2.1 - n0) - 1 - j]? = some t := ht
        have hlen : (List.take (po.2.1 - n0) po.2.2.1).length = po.2.1 - n0 := by rw [List.length_take, hpo.1]; omega
        by_cases hl : j < E.1
        · rw [List.getElem?_append_right (by rw [hlen]; omega), hlen, show E.1 + (po.2.1 - n0) - 1 - j - (po.2.1 - n0) = E.1 - 1 - j by omega] at ht
          rw [ha j hl]
          exact hE.2.1 j t hl ht
        · rw [List.getElem?_append_left (by rw [hlen]; omega), List.getElem?_take_of_lt (by omega)] at ht
          have : ax_rp n0 E.1 ρ ρ1 j = ρ1 (n0 + (j - E.1)) := if_neg hl
          rw [this]
          refine hpo.2.1 _ t (by omega) ?_
          rw [show po.2.1 - 1 - (n0 + (j - E.1)) = E.1 + (po.2.1 - n0) - 1 - j by omega]
          exact ht
      · intro y hy
        rcases List.mem_append.mp hy with hy | hy
        · obtain ⟨x, hx, q1, q2, q3⟩ := ax_psf_ok e2 y hy
          obtain ⟨a, i, v, k, mm, l, g1, g2, g3, g4⟩ := hpo.2.2.1 x hx
          exact ⟨a, i, v, k, mm, l, ax_ps_ok hm hρ q1 g1, ax_ps_ok hm hρ q2 g2, ax_ps_ok hm hρ q3 g3, g4⟩
        · exact (hE.2.2.1 y hy).mono (Nat.le_add_right _ _) ha
      · intro d hd
        exact (hE.2.2.2.1 d hd).mono (Nat.le_add_right _ _) ha
      · intro x hx
        rcases List.mem_append.mp hx with hx | hx
        · exact ax_psx_ok hm hρ e3 hpo.2.2.2.2 x hx
        · exact (hE.2.2.2.2 x hx).mono (Nat.le_add_right _ _) ha
end AXQ
