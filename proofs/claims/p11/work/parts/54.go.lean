theorem ax_findI_ok {pc : Nat} : ∀ {ch : List ax_I} {x : ax_I}, ax_findI pc ch = some x → x ∈ ch ∧ x.1 = pc
  | [], x, h => by cases h
  | y :: ch, x, h => by
    rcases ax_condY h with ⟨hb, h⟩ | ⟨-, h⟩
    · cases h
      exact ⟨List.mem_cons_self, rx_beq.mp hb⟩
    · obtain ⟨h1, h2⟩ := ax_findI_ok h
      exact ⟨List.mem_cons_of_mem _ h1, h2⟩
theorem ax_lookI_ok {cd : List (List ax_I)} {pc : Nat} {x : ax_I} (h : ax_lookI cd pc = some x) : (∃ ch ∈ cd, x ∈ ch) ∧ x.1 = pc := by
  unfold ax_lookI at h
  rw [rx_nth_eq] at h
  cases e : cd[Nat.div pc 16]? with
  | none => rw [e] at h; cases h
  | some ch =>
    rw [e] at h
    obtain ⟨h1, h2⟩ := ax_findI_ok h
    exact ⟨⟨ch, List.mem_of_getElem? e, h1⟩, h2⟩
/-- how an abstract outcome stands for one -/
noncomputable def ax_O1 (w : ax_W) (X : ax_X) (md : List (Nat × Nat)) (ρ : Nat → Nat) (n : Nat) (hp : rx_H) (oa : ax_O) (o : rx_O) : Prop := ∃ ρ' : Nat → Nat, (∀ k, k < n → ρ' k = ρ k) ∧ n ≤ oa.2.1 ∧ ax_ev oa.2.1 ρ' oa.1 = some o.1 ∧ ax_EO w X ρ' oa.2 o.2.1 ∧ ax_HT w o.2.1 ∧ ax_HR w md hp o.2.1 ∧ o.2.2 = []
noncomputable def ax_Out (w : ax_W) (X : ax_X) (md : List (Nat × Nat)) (ρ : Nat → Nat) (n : Nat) (hp : rx_H) (outs : List ax_O) (o : rx_O) : Prop := ∃ oa ∈ outs, ax_O1 w X md ρ n hp oa o
/-- a contract holds -/
noncomputable def ax_Con (w : ax_W) (X : ax_X) (P : List rx_M) (K : rx_K) (q : rx_M) (C : ax_C) : Prop :=
  ∀ (ρ : Nat → Nat) (hp : rx_H) (as : List Nat), C.1.1.map (ax_ev C.1.2.1 ρ) = as.map some → ax_EO w X ρ C.1.2 hp → ax_HT w hp → ax_Wp P K q (0, rx_args as (rx_mL (rx_n q)), [], hp, [], 0, 0) (fun o => ∃ po ∈ C.2.2, ∃ (ρ' : Nat → Nat) (r : Nat), (∀ k, k < C.1.2.1 → ρ' k = ρ k) ∧ po.1 = [r] ∧ ax_ev po.2.1 ρ' r = some o.1 ∧ ax_EO w X ρ' po.2 o.2.1 ∧ ax_HT w o.2.1 ∧ ax_HR w C.2.1 hp o.2.1 ∧ o.2.2 = [])
section AXG
variable {w : ax_W} {X : ax_X} {md : List (Nat × Nat)} {ρ : Nat → Nat} {E : ax_E} {hp : rx_H} {P : List rx_M} {K : rx_K} {AP : List ax_M} {l : Launch} {cy : Nat → ClassId} {D : va_G} {r : rx_M}
/-- a way of running methods inline keeps this -/
noncomputable def ax_SG (w : ax_W) (X : ax_X) (md : List (Nat × Nat)) (P : List rx_M) (P : List rx_M) (K : rx_K) (g : rx_N → List (List ax_I) → ax_A → Option (List ax_O)) : Prop :=
  ∀ r ∈ P, ∀ cd, ax_tab r cd → ∀ (a : ax_A) (outs : List ax_O), g (rx_n r) cd a = some outs → ∀ (ρ : Nat → Nat) (hp : rx_H) (σ : rx_S), ax_R w X ρ a hp σ → ax_Wp P K r σ (ax_Out w X md ρ a.2.2.2.1 hp outs)
theorem ax_cat_ok (hE : ax_EO w X ρ E hp) : ∀ {st stc : List Nat}, st.map (ax_ev E.1 ρ) = stc.map some → ax_cat E st = rx_cat stc
  | [], [], _ => rfl
  | [], _ :: _, h => by cases h
  | _ :: _, [], h => by cases h
  | v :: st, x :: stc, h => by
    obtain ⟨x', r', e, hx, h⟩ := ax_evs_cons h
    cases e
    have ih := ax_cat_ok hE h
    show (bif ax_isK E 1 v then Nat.add (ax_cat E st) 2 else Nat.succ (ax_cat E st)) = (bif rx_isJ x then Nat.add (rx_cat stc) 2 else Nat.succ (rx_cat stc))
    rw [ih, ax_isJ_eq hE hx]
theorem ax_rep2 {n0 : Nat} : ∀ n : Nat, (List.replicate n 2).map (ax_ev n0 ρ) = (List.replicate n 2).map some
  | 0 => rfl
  | n + 1 => by
    rw [List.replicate_succ, List.map_cons, List.map_cons, ax_rep2 n]
    rfl
theorem ax_args_ok (hE : ax_EO w X ρ E hp) : ∀ {as asc : List Nat} {n : Nat}, as.map (ax_ev E.1 ρ) = asc.map some → (ax_args E as n).map (ax_ev E.1 ρ) = (rx_args asc n).map some
  | [], [], n, _ => ax_rep2 n
  | [], _ :: _, _, h => by cases h
  | _ :: _, [], _, h => by cases h
  | v :: as, x :: asc, n, h => by
    obtain ⟨x', r', e, hx, h⟩ := ax_evs_cons h
    cases e
    show List.map _ (bif ax_isK E 1 v then v :: 2 :: ax_args E as (n - 2) else v :: ax_args E as (n - 1)) = List.map some (bif rx_isJ x then x :: 2 :: rx_args asc (n - 2) else x :: rx_args asc (n - 1))
    rw [ax_isJ_eq hE hx]
    cases rx_isJ x with
    | true => exact ax_evs_push hx (ax_evs_push (ax_ev_c (by decide)) (ax_args_ok hE h))
    | false => exact ax_evs_push hx (ax_args_ok hE h)
theorem ax_spl_ok {n0 : Nat} : ∀ {k : Nat} {st stc acc accc as rest : List Nat}, st.map (ax_ev n0 ρ) = stc.map some → acc.map (ax_ev n0 ρ) = accc.map some → rx_spl k st acc = some (as, rest) → ∃ asc restc, rx_spl k stc accc = some (asc, restc) ∧ as.map (ax_ev n0 ρ) = asc.map some ∧ rest.map (ax_ev n0 ρ) = restc.map some
  | 0, st, stc, acc, accc, as, rest, hs, ha, h => by
    replace h : some (acc, st) = some (as, rest) := h
    cases h
    exact ⟨accc, stc, rfl, ha, hs⟩
  | k + 1, [], stc, acc, accc, as, rest, hs, ha, h => by cases h
  | k + 1, v :: st, stc, acc, accc, as, rest, hs, ha, h => by
    obtain ⟨x, r, rfl, hx, hr⟩ := ax_evs_cons hs
    replace h : rx_spl k st (v :: acc) = some (as, rest) := h
    obtain ⟨asc, restc, h1, h2⟩ := ax_spl_ok (k := k) (accc := x :: accc) hr (ax_evs_push hx ha) h
    exact ⟨asc, restc, h1, h2⟩
theorem ax_posts_ok {m : List (Nat × Nat)} {n0 : Nat} {md' : List (Nat × Nat)} : ∀ {ps : List ax_T} {os : List ax_O}, ax_posts w E m n0 md' ps = some os → ∀ po ∈ ps, ∃ q ∈ os, ax_post w E m n0 md' po = some q
  | [], os, h => by intro po hp; cases hp
  | p0 :: ps, os, h => by
    replace h : (match ax_post w E m n0 md' p0, ax_posts w E m n0 md' ps with
      | some q, some r => some (q :: r)
      | _, _ => none) = some os := h
    cases e1 : ax_post w E m n0 md' p0 with
    | none => rw [e1] at h; cases h
    | some q =>
      cases e2 : ax_posts w E m n0 md' ps with
      | none => rw [e1, e2] at h; cases h
      | some r =>
        rw [e1, e2] at h
        cases h
        intro po hpo
        rcases List.mem_cons.mp hpo with rfl | hpo
        · exact ⟨q, List.mem_cons_self, e1⟩
        · obtain ⟨z, hz, hz2⟩ := ax_posts_ok e2 po hpo
          exact ⟨z, List.mem_cons_of_mem _ hz, hz2⟩
theorem ax_mem_all {md md' : List (Nat × Nat)} (h : md'.all (fun x => ax_mem md x.1 x.2) = true) : ∀ g i, ax_mem md g i = false → ax_mem md' g i = false := by
  intro g i hf
  refine Bool.eq_false_iff.mpr (fun z => ?_)
  obtain ⟨x, hx, hz⟩ := List.any_eq_true.mp z
  have h1 := ax_mem_one (List.all_eq_true.mp h x hx) g i hf
  have : ax_mem [(x.1, x.2)] g i = true := List.any_eq_true.mpr ⟨(x.1, x.2), List.mem_cons_self, hz⟩
  rw [this] at h1
  cases h1
theorem ax_match_me (hE : ax_EO w X ρ E hp) {f : Nat} {T : ax_T} {vs xs : List Nat} {m : List (Nat × Nat)} (hvs : vs.map (ax_ev E.1 ρ) = xs.map some) (h : ax_match w E f T vs = some m) : ax_me E.1 ρ m := by
  unfold ax_match at h
  cases em : ax_mt w E f T vs with
  | none => rw [em] at h; cases h
  | some mm =>
      rw [em] at h
      dsimp only at h
      obtain ⟨-, h⟩ := rx_cond h
      cases h
      obtain ⟨m0, m1, e1, e2, e3⟩ := ax_mt_ok em
      have hev : ∀ v ∈ vs, ∃ x, ax_ev E.1 ρ v = some x := fun v hv => by
        obtain ⟨i, hi⟩ := List.getElem?_of_mem hv
        obtain ⟨x, -, hx⟩ := ax_evs_nth hvs hi
        exact ⟨x, hx⟩
      have me0 : ax_me E.1 ρ m0 := ax_unis_me e1 (fun k v hk => by cases hk) hev
      have me1 : ax_me E.1 ρ m1 := ax_unx_me (fun x hx => ax_NO_ev (ax_xall_ok hE x hx)) e2 me0
      exact ax_unif_me (fun x hx => by obtain ⟨a, i, v, k, mm, ll, q1, q2, q3, -⟩ := hE.2.2.1 x hx; exact ⟨v, q3⟩) e3 me1
/-- a call by one of several contracts -/
theorem ax_try_ok (hX : ax_XD w X) (hE : ax_EO w X ρ E hp) (hT : ax_HT w hp) {q : rx_M} {as asc : List Nat} (has : as.map (ax_ev E.1 ρ) = asc.map some) : ∀ {cs : List ax_C} {os : List ax_O}, (∀ C ∈ cs, ax_Con w X P K q C) → ax_try w E md as cs = some os → ax_Wp P K q (0, rx_args asc (rx_mL (rx_n q)), [], hp, [], 0, 0) (ax_Out w X md ρ E.1 hp os)
  | [], os, _, h => by cases h
  | C :: cs, os, hC, h => by
    replace h : (match ax_tr1 w E md as C with
      | some l => some l
      | none => ax_try w E md as cs) = some os := h
    cases e : ax_tr1 w E md as C with
    | none =>
      rw [e] at h
      exact ax_try_ok hX hE hT has (fun C' h' => hC C' (List.mem_cons_of_mem _ h')) h
    | some os' =>
      rw [e] at h
      cases h
      unfold ax_tr1 at e
      cases em : ax_match w E 0 C.1 as with
      | none => rw [em] at e; cases e
      | some m =>
        rw [em] at e
        obtain ⟨hmd, e⟩ := rx_cond e
        obtain ⟨m1, m2, m3⟩ := ax_match_ok hE has em
        have me := ax_match_me hE has em
        refine ax_wp_mono (hC C List.mem_cons_self _ hp asc m1 m2 hT) ?_
        rintro o ⟨po, hpo, ρ', r0, g1, g2, g3, g4, g5, g6, g7⟩
        obtain ⟨z, hz, hz2⟩ := ax_posts_ok e po hpo
        obtain ⟨rv, E'⟩ := z
        obtain ⟨r1, k1, k2, k3, k4, k5⟩ := ax_post_ok hX hE me g1 g4 g6 hz2
        rw [g2] at k1
        cases k1
        exact ⟨(rv, E'), hz, _, k3, k2, k4 _ g3, k5, g5, g6.wk (ax_mem_all hmd), g7⟩
theorem ax_ret_ok (hP : ∀ q ∈ P, rx_QW q ∧ rx_ST P K q) (hr : r ∈ P) {x : rx_E} {pc o : Nat} {oa : ax_O} {lvc st stc : List Nat} {Po : rx_O → Prop} (hl : rx_look (rx_cd r) pc = some x) (hc : ax_ctl x.2.2.2.1 = some o) (hE : ax_EO w X ρ E hp) (hT : ax_HT w hp) (hs : st.map (ax_ev E.1 ρ) = stc.map some)
    (h : ax_ret o (rx_rk (rx_n r)) st E = some oa) (ho : o ≤ 29) (hPo : ∀ o', ax_O1 w X md ρ E.1 hp oa o' → Po o') : ax_Wp P K r (pc, lvc, stc, hp, [], 0, 0) Po := by
  have key : oa.2 = E → ∀ v, ax_ev E.1 ρ oa.1 = some v → ax_O1 w X md ρ E.1 hp oa (v, hp, []) := fun e v hv => ⟨ρ, fun _ _ => rfl, by rw [e]; exact Nat.le_refl _, by rw [e]; exact hv, by rw [e]; exact hE, hT, ax_HR.rf, rfl⟩
  have hins : ∀ i, x.2.2.2.1 = i → ax_ctl i = some o := fun i hi => by rw [← hi]; exact hc
  match st, h with
  | [], h =>
    obtain ⟨hb, h⟩ := rx_cond h
    obtain ⟨b1, b2⟩ := rx_and2.mp hb
    have b1 := rx_beq.mp b1
    cases h
    have hst : stc = [] := by cases stc with | nil => rfl | cons _ _ => cases hs
    subst hst
    have hi : x.2.2.2.1 = .return_ := by
      revert hc
      cases x.2.2.2.1 <;> intro hc <;> first | rfl | (cases hc; omega) | cases hc
    refine ax_wp_ret hP hr (o := (2, hp, [])) hl (Or.inr (Or.inr (Or.inl ⟨hi, ?_⟩))) (hPo _ (key rfl 2 (ax_ev_c (v := 2) (by decide))))
    show (bif Nat.beq (rx_rk (rx_n r)) 0 && rx_fit (rx_n r) 0 0 then some [(2, hp, [])] else none) = _
    rw [b2]
    rfl
  | _ :: _ :: _, h => cases h
  | [v], h =>
    obtain ⟨xv, r', hst, hx, hr'⟩ := ax_evs_cons hs
    have : r' = [] := by cases r' with | nil => rfl | cons _ _ => cases hr'
    subst this
    subst hst
    unfold ax_ret at h
    dsimp only at h
    rcases ax_condY h with ⟨b1, h⟩ | ⟨-, h⟩
    · have b1 := rx_beq.mp b1
      have hi : x.2.2.2.1 = .ireturn := by
        revert hc
        cases x.2.2.2.1 <;> intro hc <;> first | rfl | (cases hc; omega) | cases hc
      cases ei : ax_iv E v with
      | none => rw [ei] at h; cases h
      | some i =>
        rw [ei] at h
        obtain ⟨hb, h⟩ := rx_cond h
        cases h
        obtain ⟨q0, q1, q2, q3⟩ := ax_iv_ok hE ei hx
        refine ax_wp_ret hP hr (o := (xv, hp, [])) hl (Or.inl ⟨hi, ?_⟩) (hPo _ (key rfl xv hx))
        show (bif rx_fit (rx_n r) 0 0 && ((Nat.beq (rx_rk (rx_n r)) 1 && rx_isI xv) || (Nat.beq (rx_rk (rx_n r)) 2 && rx_bit (rx_kn [] xv))) then some [(rx_kn [] xv, hp, [])] else none) = _
        rw [ax_kn, show rx_fit (rx_n r) 0 0 = true from rfl, Bool.true_and]
        have : ((Nat.beq (rx_rk (rx_n r)) 1 && rx_isI xv) || (Nat.beq (rx_rk (rx_n r)) 2 && rx_bit xv)) = true := by
          rcases rx_or2.mp hb with hb | hb
          · exact rx_or2.mpr (Or.inl (rx_and2.mpr ⟨hb, rx_or2.mpr (Or.inl (rx_beq.mpr q0))⟩))
          · obtain ⟨h1, hb⟩ := rx_and2.mp hb
            obtain ⟨h2, h3⟩ := rx_and2.mp hb
            exact rx_or2.mpr (Or.inr (rx_and2.mpr ⟨h1, ax_bit_ok q0 q1 (Nat.le_trans (rx_ble.mp h2) q2) (Nat.le_trans q3 (rx_ble.mp h3))⟩))
        rw [this]
        rfl
    rcases ax_condY h with ⟨b1, h⟩ | ⟨-, h⟩
    · have b1 := rx_beq.mp b1
      have hi : x.2.2.2.1 = .lreturn := by
        revert hc
        cases x.2.2.2.1 <;> intro hc <;> first | rfl | (cases hc; omega) | cases hc
      obtain ⟨hb, h⟩ := rx_cond h
      cases h
      obtain ⟨h1, h2⟩ := rx_and2.mp hb
      refine ax_wp_ret hP hr (o := (xv, hp, [])) hl (Or.inr (Or.inl ⟨hi, ?_⟩)) (hPo _ (key rfl xv hx))
      show (bif rx_fit (rx_n r) 0 0 && (Nat.beq (rx_rk (rx_n r)) 3 && rx_isJ xv) then some [(xv, hp, [])] else none) = _
      rw [show rx_fit (rx_n r) 0 0 = true from rfl, h1, show rx_isJ xv = true from rx_beq.mpr (ax_isK1 hE h2 hx)]
      rfl
    · obtain ⟨hb, h⟩ := rx_cond h
      cases h
      obtain ⟨b1, hb⟩ := rx_and2.mp hb
      obtain ⟨h1, h2⟩ := rx_and2.mp hb
      have b1 := rx_beq.mp b1
      have hi : x.2.2.2.1 = .areturn := by
        revert hc
        cases x.2.2.2.1 <;> intro hc <;> first | rfl | (cases hc; omega) | cases hc
      refine ax_wp_ret hP hr (o := (xv, hp, [])) hl (Or.inr (Or.inr (Or.inr ⟨hi, ?_⟩))) (hPo _ (key rfl xv hx))
      show (bif rx_fit (rx_n r) 0 0 && (Nat.beq (rx_rk (rx_n r)) 4 && rx_isA xv) then some [(xv, hp, [])] else none) = _
      rw [show rx_fit (rx_n r) 0 0 = true from rfl, h1, show rx_isA xv = true from rx_beq.mpr (ax_isRok hE h2 hx).1]
      rfl
end AXG
