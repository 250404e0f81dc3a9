/-! Templates: values and what is known of them; contracts -/
abbrev ax_T : Type := List Nat × ax_E
/-- a contract: how it begins (arguments), what may be written, how it ends (the answer) -/
abbrev ax_C : Type := ax_T × List (Nat × Nat) × List ax_T
noncomputable def ax_lk (m : List (Nat × Nat)) (k : Nat) : Option Nat := List.rec (motive := fun _ => Option Nat) none (fun x _ ih => bif Nat.beq x.1 k then some x.2 else ih) m
/-- a template's value stands for a value; its first f symbols stand for themselves -/
noncomputable def ax_uni (f : Nat) (m : List (Nat × Nat)) (t v : Nat) : Option (List (Nat × Nat)) :=
  bif Nat.beq (rx_tk t) 3 && !(Nat.blt (rx_pl t) f) then (match ax_lk m (rx_pl t) with
    | some u => bif Nat.beq u v then some m else none
    | none => some ((rx_pl t, v) :: m))
  else bif Nat.beq t v then some m else none
noncomputable def ax_unis (f : Nat) (ts : List Nat) : List Nat → List (Nat × Nat) → Option (List (Nat × Nat)) := List.rec (motive := fun _ => List Nat → List (Nat × Nat) → Option (List (Nat × Nat))) (fun vs m => match vs with
  | [] => some m
  | _ :: _ => none) (fun t _ ih vs m => match vs with
  | [] => none
  | v :: vs' => (match ax_uni f m t v with
    | some m1 => ih vs' m1
    | none => none)) ts
noncomputable def ax_sb (f : Nat) (m : List (Nat × Nat)) (t : Nat) : Option Nat := bif Nat.beq (rx_tk t) 3 && !(Nat.blt (rx_pl t) f) then ax_lk m (rx_pl t) else some t
noncomputable def ax_unif (f : Nat) (fs : List (Nat × Nat × Nat)) (ts : List (Nat × Nat × Nat)) : List (Nat × Nat) → Option (List (Nat × Nat)) := List.rec (motive := fun _ => List (Nat × Nat) → Option (List (Nat × Nat))) (fun m => some m) (fun t _ ih m => match ax_sb f m t.1, ax_sb f m t.2.1 with
  | some a, some i => (match ax_get fs a i with
    | some v => (match ax_uni f m t.2.2 v with
      | some m1 => ih m1
      | none => none)
    | none => none)
  | _, _ => none) ts
/-- a named fact of a template is one of those there -/
noncomputable def ax_unx1 (f : Nat) (m : List (Nat × Nat)) (t : ax_N) (xf : List ax_N) : Option (List (Nat × Nat)) := List.rec (motive := fun _ => Option (List (Nat × Nat))) none (fun y _ ih => bif Nat.beq y.1 t.1 then (match ax_unis f t.2 y.2 m with
  | some m1 => some m1
  | none => ih) else ih) xf
noncomputable def ax_unx (f : Nat) (xf : List ax_N) (ts : List ax_N) : List (Nat × Nat) → Option (List (Nat × Nat)) := List.rec (motive := fun _ => List (Nat × Nat) → Option (List (Nat × Nat))) (fun m => some m) (fun t _ ih m => match ax_unx1 f m t xf with
  | some m1 => ih m1
  | none => none) ts
noncomputable def ax_tyck (w : ax_W) (E : ax_E) (f : Nat) (m : List (Nat × Nat)) (tl : List ax_Y) : Nat → Bool := List.rec (motive := fun _ => Nat → Bool) (fun k => Nat.beq k 0) (fun t _ ih k => Nat.blt 0 k && ((match (bif Nat.blt (Nat.pred k) f then some (ax_sym (Nat.pred k)) else ax_lk m (Nat.pred k)) with
  | some v => (match ax_typ E v with
    | some s => ax_sub w s t
    | none => false)
  | none => false) && ih (Nat.pred k))) tl
noncomputable def ax_nil {α : Type} (l : List α) : Bool := match l with
  | [] => true
  | _ => false
/-- all its symbols are there -/
noncomputable def ax_sc (n v : Nat) : Bool := !(Nat.beq (rx_tk v) 3) || Nat.blt (rx_pl v) n
noncomputable def ax_scs (T : ax_T) : Bool := T.1.all (ax_sc (ax_n T.2)) && ((ax_fs T.2).all (fun x => ax_sc (ax_n T.2) x.1 && (ax_sc (ax_n T.2) x.2.1 && ax_sc (ax_n T.2) x.2.2)) && (ax_xf T.2).all (fun x => x.2.all (ax_sc (ax_n T.2))))
/-- all facts: the sums and the cells too -/
noncomputable def ax_xall (E : ax_E) : List ax_N := ax_xf E ++ ((ax_df E).map (fun d => (1015, [d.1, d.2.1, d.2.2, 0])) ++ (ax_fs E).map (fun d => (1200, [d.1, d.2.1, d.2.2])))
/-- named facts first, as they are told; then the cells -/
noncomputable def ax_mt (w : ax_W) (E : ax_E) (f : Nat) (T : ax_T) (vs : List Nat) : Option (List (Nat × Nat)) := match ax_unis f T.1 vs [] with
  | some m => (match ax_unx f (ax_xall E) (ax_xf T.2) m with
    | some m1 => ax_unif f (ax_fs E) (ax_fs T.2) m1
    | none => none)
  | none => none
noncomputable def ax_match (w : ax_W) (E : ax_E) (f : Nat) (T : ax_T) (vs : List Nat) : Option (List (Nat × Nat)) := match ax_mt w E f T vs with
  | some m2 => bif Nat.beq (rx_len (ax_ty T.2)) (ax_n T.2) && (Nat.ble f (ax_n T.2) && (ax_tyck w E f m2 (ax_ty T.2) (ax_n T.2) && (ax_nil (ax_df T.2) && ax_scs T))) then some m2 else none
  | none => none
-- what they stand for
/-- what a template's value is, by a map -/
noncomputable def ax_tv (f : Nat) (m : List (Nat × Nat)) (t v : Nat) : Prop := (t % 4 = 3 ∧ f ≤ t / 4 ∧ ax_lk m (t / 4) = some v) ∨ (¬ (t % 4 = 3 ∧ f ≤ t / 4) ∧ t = v)
noncomputable def ax_le (m m' : List (Nat × Nat)) : Prop := ∀ k u, ax_lk m k = some u → ax_lk m' k = some u
theorem ax_le.rf {m : List (Nat × Nat)} : ax_le m m := fun _ _ h => h
theorem ax_le.tr {a b c : List (Nat × Nat)} (h : ax_le a b) (k : ax_le b c) : ax_le a c := fun i u z => k i u (h i u z)
theorem ax_tv.le {f : Nat} {m m' : List (Nat × Nat)} {t v : Nat} (h : ax_tv f m t v) (hl : ax_le m m') : ax_tv f m' t v := by
  rcases h with ⟨h1, h2, h3⟩ | h
  · exact Or.inl ⟨h1, h2, hl _ _ h3⟩
  · exact Or.inr h
theorem ax_ub {f t : Nat} : (Nat.beq (rx_tk t) 3 && !(Nat.blt (rx_pl t) f)) = true ↔ (t % 4 = 3 ∧ f ≤ t / 4) := by
  constructor
  · intro h
    obtain ⟨h1, h2⟩ := rx_and2.mp h
    refine ⟨rx_beq.mp h1, ?_⟩
    cases hb : Nat.blt (rx_pl t) f with
    | true => rw [hb] at h2; cases h2
    | false => exact Nat.not_lt.mp (fun z => by rw [rx_blt.mpr (show rx_pl t < f from z)] at hb; cases hb)
  · rintro ⟨h1, h2⟩
    refine rx_and2.mpr ⟨rx_beq.mpr h1, ?_⟩
    rw [show Nat.blt (rx_pl t) f = false from Bool.eq_false_iff.mpr (fun z => by have z : t / 4 < f := rx_blt.mp z; omega)]
    rfl
theorem ax_uni_ok {f : Nat} {m m1 : List (Nat × Nat)} {t v : Nat} (h : ax_uni f m t v = some m1) : ax_le m m1 ∧ ax_tv f m1 t v := by
  unfold ax_uni at h
  rcases ax_condY h with ⟨hc, h⟩ | ⟨hc, h⟩
  · obtain ⟨c1, c2⟩ := ax_ub.mp hc
    cases e : ax_lk m (rx_pl t) with
    | some u =>
      rw [e] at h
      obtain ⟨hb, h⟩ := rx_cond h
      cases h
      have hb := rx_beq.mp hb
      subst hb
      exact ⟨ax_le.rf, Or.inl ⟨c1, c2, e⟩⟩
    | none =>
      rw [e] at h
      cases h
      refine ⟨fun k u hk => ?_, Or.inl ⟨c1, c2, ?_⟩⟩
      · show (bif Nat.beq (rx_pl t) k then some v else ax_lk m k) = some u
        rw [show Nat.beq (rx_pl t) k = false from Bool.eq_false_iff.mpr (fun z => by rw [← rx_beq.mp z, e] at hk; cases hk)]
        exact hk
      · show (bif Nat.beq (rx_pl t) (t / 4) then some v else ax_lk m (t / 4)) = some v
        rw [show Nat.beq (rx_pl t) (t / 4) = true from rx_beq.mpr rfl]
        rfl
  · obtain ⟨hb, h⟩ := rx_cond h
    cases h
    exact ⟨ax_le.rf, Or.inr ⟨(fun z => by rw [ax_ub.mpr z] at hc; cases hc), rx_beq.mp hb⟩⟩
theorem ax_unis_ok {f : Nat} : ∀ {ts vs : List Nat} {m m1 : List (Nat × Nat)}, ax_unis f ts vs m = some m1 → ax_le m m1 ∧ ts.length = vs.length ∧ ∀ i t v : Nat, ts[i]? = some t → vs[i]? = some v → ax_tv f m1 t v
  | [], [], m, m1, h => by
    cases h
    exact ⟨ax_le.rf, rfl, fun i t v h => by cases h⟩
  | [], _ :: _, _, _, h => by cases h
  | _ :: _, [], _, _, h => by cases h
  | t :: ts, v :: vs, m, m1, h => by
    replace h : (match ax_uni f m t v with
      | some m1 => ax_unis f ts vs m1
      | none => none) = some m1 := h
    cases e : ax_uni f m t v with
    | none => rw [e] at h; cases h
    | some m2 =>
      rw [e] at h
      obtain ⟨a1, a2⟩ := ax_uni_ok e
      obtain ⟨b1, b2, b3⟩ := ax_unis_ok h
      refine ⟨a1.tr b1, by simp [b2], fun i t' v' h1 h2 => ?_⟩
      cases i with
      | zero => cases h1; cases h2; exact a2.le b1
      | succ i => exact b3 i t' v' (by simpa using h1) (by simpa using h2)
theorem ax_sb_ok {f : Nat} {m : List (Nat × Nat)} {t v : Nat} (h : ax_sb f m t = some v) : ax_tv f m t v := by
  unfold ax_sb at h
  rcases ax_condY h with ⟨hc, h⟩ | ⟨hc, h⟩
  · obtain ⟨c1, c2⟩ := ax_ub.mp hc
    exact Or.inl ⟨c1, c2, h⟩
  · cases h
    exact Or.inr ⟨(fun z => by rw [ax_ub.mpr z] at hc; cases hc), rfl⟩
theorem ax_unif_ok {f : Nat} {fs : List (Nat × Nat × Nat)} : ∀ {ts : List (Nat × Nat × Nat)} {m m1 : List (Nat × Nat)}, ax_unif f fs ts m = some m1 → ax_le m m1 ∧ ∀ x ∈ ts, ∃ a i v, (a, i, v) ∈ fs ∧ ax_tv f m1 x.1 a ∧ ax_tv f m1 x.2.1 i ∧ ax_tv f m1 x.2.2 v
  | [], m, m1, h => by
    cases h
    exact ⟨ax_le.rf, fun x hx => by cases hx⟩
  | t :: ts, m, m1, h => by
    replace h : (match ax_sb f m t.1, ax_sb f m t.2.1 with
      | some a, some i => (match ax_get fs a i with
        | some v => (match ax_uni f m t.2.2 v with
          | some m1 => ax_unif f fs ts m1
          | none => none)
        | none => none)
      | _, _ => none) = some m1 := h
    cases e1 : ax_sb f m t.1 with
    | none => rw [e1] at h; cases h
    | some a =>
      cases e2 : ax_sb f m t.2.1 with
      | none => rw [e1, e2] at h; cases h
      | some i =>
        rw [e1, e2] at h
        dsimp only at h
        cases e3 : ax_get fs a i with
        | none => rw [e3] at h; cases h
        | some v =>
          rw [e3] at h
          dsimp only at h
          cases e4 : ax_uni f m t.2.2 v with
          | none => rw [e4] at h; cases h
          | some m2 =>
            rw [e4] at h
            dsimp only at h
            obtain ⟨a1, a2⟩ := ax_uni_ok e4
            obtain ⟨b1, b2⟩ := ax_unif_ok h
            refine ⟨a1.tr b1, fun x hx => ?_⟩
            rcases List.mem_cons.mp hx with rfl | hx
            · exact ⟨a, i, v, ax_get_ok e3, (ax_sb_ok e1).le (a1.tr b1), (ax_sb_ok e2).le (a1.tr b1), a2.le b1⟩
            · exact b2 x hx
theorem ax_unx1_ok {f : Nat} {m m1 : List (Nat × Nat)} {t : ax_N} : ∀ {xf : List ax_N}, ax_unx1 f m t xf = some m1 → ∃ y ∈ xf, y.1 = t.1 ∧ ax_unis f t.2 y.2 m = some m1
  | [], h => by cases h
  | y :: xf, h => by
    replace h : (bif Nat.beq y.1 t.1 then (match ax_unis f t.2 y.2 m with
      | some m1 => some m1
      | none => ax_unx1 f m t xf) else ax_unx1 f m t xf) = some m1 := h
    rcases ax_condY h with ⟨h0, h⟩ | ⟨-, h⟩
    · cases e : ax_unis f t.2 y.2 m with
      | some m2 =>
        rw [e] at h
        cases h
        exact ⟨y, List.mem_cons_self, rx_beq.mp h0, e⟩
      | none =>
        rw [e] at h
        obtain ⟨z, hz, hh⟩ := ax_unx1_ok h
        exact ⟨z, List.mem_cons_of_mem _ hz, hh⟩
    · obtain ⟨z, hz, hh⟩ := ax_unx1_ok h
      exact ⟨z, List.mem_cons_of_mem _ hz, hh⟩
theorem ax_unx_ok {f : Nat} {xf : List ax_N} : ∀ {ts : List ax_N} {m m1 : List (Nat × Nat)}, ax_unx f xf ts m = some m1 → ax_le m m1 ∧ ∀ x ∈ ts, ∃ y ∈ xf, y.1 = x.1 ∧ x.2.length = y.2.length ∧ ∀ i t v : Nat, x.2[i]? = some t → y.2[i]? = some v → ax_tv f m1 t v
  | [], m, m1, h => by
    cases h
    exact ⟨ax_le.rf, fun x hx => by cases hx⟩
  | t :: ts, m, m1, h => by
    replace h : (match ax_unx1 f m t xf with
      | some m1 => ax_unx f xf ts m1
      | none => none) = some m1 := h
    cases e : ax_unx1 f m t xf with
    | none => rw [e] at h; cases h
    | some m2 =>
      rw [e] at h
      obtain ⟨y, hy, e1, e2⟩ := ax_unx1_ok e
      obtain ⟨a1, a2, a3⟩ := ax_unis_ok e2
      obtain ⟨b1, b2⟩ := ax_unx_ok h
      refine ⟨a1.tr b1, fun x hx => ?_⟩
      rcases List.mem_cons.mp hx with rfl | hx
      · exact ⟨y, hy, e1, a2, fun i t v h1 h2 => (a3 i t v h1 h2).le b1⟩
      · exact b2 x hx
theorem ax_mt_ok {w : ax_W} {E : ax_E} {f : Nat} {T : ax_T} {vs : List Nat} {m : List (Nat × Nat)} (h : ax_mt w E f T vs = some m) : ∃ m0 m1, ax_unis f T.1 vs [] = some m0 ∧ ax_unx f (ax_xall E) (ax_xf T.2) m0 = some m1 ∧ ax_unif f (ax_fs E) (ax_fs T.2) m1 = some m := by
  unfold ax_mt at h
  cases e1 : ax_unis f T.1 vs [] with
  | none => rw [e1] at h; cases h
  | some m0 =>
    rw [e1] at h
    dsimp only at h
    cases e2 : ax_unx f (ax_xall E) (ax_xf T.2) m0 with
    | none => rw [e2] at h; cases h
    | some m1 =>
      rw [e2] at h
      exact ⟨m0, m1, rfl, e2, h⟩
/-- the valuation of a template -/
noncomputable def ax_rm (f : Nat) (m : List (Nat × Nat)) (n : Nat) (ρ : Nat → Nat) (k : Nat) : Nat := if k < f then ρ k else (match ax_lk m k with
  | some v => (ax_ev n ρ v).getD 0
  | none => 0)
theorem ax_tv_ev {f : Nat} {m : List (Nat × Nat)} {n N : Nat} {ρ : Nat → Nat} {t v x : Nat} (h : ax_tv f m t v) (hx : ax_ev n ρ v = some x) (hN : ∀ k, t % 4 = 3 → k = t / 4 → k < N) : ax_ev N (ax_rm f m n ρ) t = some x := by
  unfold ax_ev
  rcases h with ⟨h1, h2, h3⟩ | ⟨h1, rfl⟩
  · rw [if_pos h1, if_pos (hN _ h1 rfl)]
    unfold ax_rm
    rw [if_neg (by omega), h3]
    show some ((ax_ev n ρ v).getD 0) = some x
    rw [hx]
    rfl
  · unfold ax_ev at hx
    by_cases h3 : t % 4 = 3
    · rw [if_pos h3] at hx ⊢
      by_cases hl : t / 4 < n
      · rw [if_pos hl] at hx
        rw [if_pos (hN _ h3 rfl)]
        unfold ax_rm
        rw [if_pos (by omega)]
        exact hx
      · rw [if_neg hl] at hx; cases hx
    · rw [if_neg h3] at hx ⊢; exact hx
