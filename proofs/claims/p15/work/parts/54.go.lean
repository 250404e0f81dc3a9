section
theorem ax_findI_ok {pc : Nat} : ∀ {ch : List ax_I} {x : ax_I}, ax_findI pc ch = some x → x ∈ ch ∧ x.1 = pc
  | [], x, h => by cases h
  | y :: ch, x, h => by
    rcases ax_condY h with ⟨hb, h⟩ | ⟨-, h⟩
    · cases h
      exact ⟨List.mem_cons_self, rx_beq.mp hb⟩
    · obtain ⟨h1, h2⟩ := ax_findI_ok h
      exact ⟨List.mem_cons_of_mem _ h1, h2⟩
theorem ax_lookI_ok {cd : List (List ax_I)} {pc : Nat} {x : ax_I} (h : ax_lookI cd pc = some x) : (∃ ch ∈ cd, x ∈ ch) ∧ x.1 = pc := by
  unfold ax_lookI at h
  rw [rx_nth_eq] at h
  cases e : cd[Nat.div pc 16]? with
  | none => rw [e] at h; cases h
  | some ch =>
    rw [e] at h
    obtain ⟨h1, h2⟩ := ax_findI_ok h
    exact ⟨⟨ch, List.mem_of_getElem? e, h1⟩, h2⟩
/-- how an abstract outcome stands for one -/
noncomputable def ax_O1 (w : ax_W) (X : ax_X) (md : List (Nat × Nat)) (ρ : Nat → Nat) (n : Nat) (hp : rx_H) (oa : ax_O) (o : rx_O) : Prop := ∃ ρ' : Nat → Nat, (∀ k, k < n → ρ' k = ρ k) ∧ n ≤ oa.2.1 ∧ ax_ev oa.2.1 ρ' oa.1 = some o.1 ∧ ax_EO w X ρ' oa.2 o.2.1 ∧ ax_HT w o.2.1 ∧ ax_HR w md hp o.2.1 ∧ o.2.2 = []
noncomputable def ax_Out (w : ax_W) (X : ax_X) (md : List (Nat × Nat)) (ρ : Nat → Nat) (n : Nat) (hp : rx_H) (outs : List ax_O) (o : rx_O) : Prop := ∃ oa ∈ outs, ax_O1 w X md ρ n hp oa o
/-- a contract holds -/
noncomputable def ax_Con (w : ax_W) (X : ax_X) (P : List rx_M) (K : rx_K) (q : rx_M) (C : ax_C) : Prop :=
  ∀ (ρ : Nat → Nat) (hp : rx_H) (as : List Nat), C.1.1.map (ax_ev C.1.2.1 ρ) = as.map some → ax_EO w X ρ C.1.2 hp → ax_HT w hp → ax_Wp P K q (0, rx_args as (rx_mL (rx_n q)), [], hp, [], 0, 0) (fun o => ∃ po ∈ C.2.2, ∃ (ρ' : Nat → Nat) (r : Nat), (∀ k, k < C.1.2.1 → ρ' k = ρ k) ∧ po.1 = [r] ∧ ax_ev po.2.1 ρ' r = some o.1 ∧ ax_EO w X ρ' po.2 o.2.1 ∧ ax_HT w o.2.1 ∧ ax_HR w C.2.1 hp o.2.1 ∧ o.2.2 = [])
section AXG
variable {w : ax_W} {X : ax_X} {md : List (Nat × Nat)} {ρ : Nat → Nat} {E : ax_E} {hp : rx_H} {P : List rx_M} {K : rx_K} {AP : List ax_M} {l : Launch} {cy : Nat → ClassId} {D : va_G} {r : rx_M}
/-- a way of running methods inline keeps this -/
noncomputable def ax_SG (w : ax_W) (X : ax_X) (md : List (Nat × Nat)) (P : List rx_M) (P : List rx_M) (K : rx_K) (g : rx_N → List (List ax_I) → ax_A → Option (List ax_O)) : Prop :=
  ∀ r ∈ P, ∀ cd, ax_tab r cd → ∀ (a : ax_A) (outs : List ax_O), g (rx_n r) cd a = some outs → ∀ (ρ : Nat → Nat) (hp : rx_H) (σ : rx_S), ax_R w X ρ a hp σ → ax_Wp P K r σ (ax_Out w X md ρ a.2.2.2.1 hp outs)
theorem ax_cat_ok (hE : ax_EO w X ρ E hp) : ∀ {st stc : List Nat}, st.map (ax_ev E.1 ρ) = stc.map some → ax_cat E st = rx_cat stc
  | [], [], _ => rfl
  | [], _ :: _, h => by cases h
  | _ :: _, [], h => by cases h
  | v :: st, x :: stc, h => by
    obtain ⟨x', r', e, hx, h⟩ := ax_evs_cons h
    cases e
    have ih := ax_cat_ok hE h
    show (bif ax_isK E 1 v then Nat.add (ax_cat E st) 2 else Nat.succ (ax_cat E st)) = (bif rx_isJ x then Nat.add (rx_cat stc) 2 else Nat.succ (rx_cat stc))
    rw [ih, ax_isJ_eq hE hx]
theorem ax_rep2 {n0 : Nat} : ∀ n : Nat, (List.replicate n 2).map (ax_ev n0 ρ) = (List.replicate n 2).map some
  | 0 => rfl
  | n + 1 => by
    rw [List.replicate_succ, List.map_cons, List.map_cons, ax_rep2 n]
    rfl
theorem ax_args_ok (hE : ax_EO w X ρ E hp) : ∀ {as asc : List Nat} {n : Nat}, as.map (ax_ev E.1 ρ) = asc.map some → (ax_args E as n).map (ax_ev E.1 ρ) = (rx_args asc n).map some
  | [], [], n, _ => ax_rep2 n
  | [], _ :: _, _, h => by cases h
  | _ :: _, [], _, h => by cases h
  | v :: as, x :: asc, n, h => by
    obtain ⟨x', r', e, hx, h⟩ := ax_evs_cons h
    cases e
    show List.map _ (bif ax_isK E 1 v then v :: 2 :: ax_args E as (n - 2) else v :: ax_args E as (n - 1)) = List.map some (bif rx_isJ x then x :: 2 :: rx_args asc (n - 2) else x :: rx_args asc (n - 1))
    rw [ax_isJ_eq hE hx]
    cases rx_isJ x with
    | true => exact ax_evs_push hx (ax_evs_push (ax_ev_c (by decide)) (ax_args_ok hE h))
    | false => exact ax_evs_push hx (ax_args_ok hE h)
theorem ax_spl_ok {n0 : Nat} : ∀ {k : Nat} {st stc acc accc as rest : List Nat}, st.map (ax_ev n0 ρ) = stc.map some → acc.map (ax_ev n0 ρ) = accc.map some → rx_spl k st acc = some (as, rest) → ∃ asc restc, rx_spl k stc accc = some (asc, restc) ∧ as.map (ax_ev n0 ρ) = asc.map some ∧ rest.map (ax_ev n0 ρ) = restc.map some
  | 0, st, stc, acc, accc, as, rest, hs, ha, h => by
    replace h : some (acc, st) = some (as, rest) := h
    cases h
    exact ⟨accc, stc, rfl, ha, hs⟩
  | k + 1, [], stc, acc, accc, as, rest, hs, ha, h => by cases h
  | k + 1, v :: st, stc, acc, accc, as, rest, hs, ha, h => by
    obtain ⟨x, r, rfl, hx, hr⟩ := ax_evs_cons hs
    replace h : rx_spl k st (v :: acc) = some (as, rest) := h
    obtain ⟨asc, restc, h1, h2⟩ := ax_spl_ok (k := k) (accc := x :: accc) hr (ax_evs_push hx ha) h
    exact ⟨asc, restc, h1, h2⟩
theorem ax_posts_ok {m : List (Nat × Nat)} {n0 : Nat} {md' : List (Nat × Nat)} : ∀ {ps : List ax_T} {os : List ax_O}, ax_posts w E m n0 md' ps = some os → ∀ po ∈ ps, ∃ q ∈ os, ax_post w E m n0 md' po = some q
  | [], os, h => by intro po hp; cases hp
  | p0 :: ps, os, h => by
    replace h : (match ax_post w E m n0 md' p0, ax_posts w E m n0 md' ps with
      | some q, some r => some (q :: r)
      | _, _ => none) = some os := h
    cases e1 : ax_post w E m n0 md' p0 with
    | none => rw [e1] at h; cases h
    | some q =>
      cases e2 : ax_posts w E m n0 md' ps with
      | none => rw [e1, e2] at h; cases h
      | some r =>
        rw [e1, e2] at h
        cases h
        intro po hpo
        rcases List.mem_cons.mp hpo with rfl | hpo
        · exact ⟨q, List.mem_cons_self, e1⟩
        · obtain ⟨z, hz, hz2⟩ := ax_posts_ok e2 po hpo
          exact ⟨z, List.mem_cons_of_mem _ hz, hz2⟩
theorem ax_mem_all {md md' : List (Nat × Nat)} (h : md'.all (fun x => ax_mem md x.1 x.2) = true) : ∀ g i, ax_mem md g i = false → ax_mem md' g i = false := by
  intro g i hf
  refine Bool.eq_false_iff.mpr (fun z => ?_)
  obtain ⟨x, hx, hz⟩ := List.any_eq_true.mp z
  have h1 := ax_mem_one (List.all_eq_true.mp h x hx) g i hf
  have : ax_mem [(x.1, x.2)] g i = true := List.any_eq_true.mpr ⟨(x.1, x.2), List.mem_cons_self, hz⟩
  rw [this] at h1
  cases h1
theorem ax_match_me (hE : ax_EO w X ρ E hp) {f : Nat} {T : ax_T} {vs xs : List Nat} {m : List (Nat × Nat)} (hvs : vs.map (ax_ev E.1 ρ) = xs.map some) (h : ax_match w E f T vs = some m) : ax_me E.1 ρ m := by
  unfold ax_match at h
  cases em : ax_mt w E f T vs with
  | none => rw [em] at h; cases h
  | some mm =>
      rw [em] at h
      dsimp only at h
      obtain ⟨-, h⟩ := rx_cond h
      cases h
      obtain ⟨m0, m1, e1, e2, e3⟩ := ax_mt_ok em
      have hev : ∀ v ∈ vs, ∃ x, ax_ev E.1 ρ v = some x := fun v hv => by
        obtain ⟨i, hi⟩ := List.getElem?_of_mem hv
        obtain ⟨x, -, hx⟩ := ax_evs_nth hvs hi
        exact ⟨x, hx⟩
      have me0 : ax_me E.1 ρ m0 := ax_unis_me e1 (fun k v hk => by cases hk) hev
      have me1 : ax_me E.1 ρ m1 := ax_unx_me (fun x hx => ax_NO_ev (ax_xall_ok hE x hx)) e2 me0
      exact ax_unif_me (fun x hx => by obtain ⟨a, i, v, k, mm, ll, q1, q2, q3, -⟩ := hE.2.2.1 x hx; exact ⟨v, q3⟩) e3 me1
/-- a call by one of several contracts -/
theorem ax_try_ok (hX : ax_XD w X) (hE : ax_EO w X ρ E hp) (hT : ax_HT w hp) {q : rx_M} {as asc : List Nat} (has : as.map (ax_ev E.1 ρ) = asc.map some) : ∀ {cs : List ax_C} {os : List ax_O}, (∀ C ∈ cs, ax_Con w X P K q C) → ax_try w E md as cs = some os → ax_Wp P K q (0, rx_args asc (rx_mL (rx_n q)), [], hp, [], 0, 0) (ax_Out w X md ρ E.1 hp os)
  | [], os, _, h => by cases h
  | C :: cs, os, hC, h => by
    replace h : (match ax_tr1 w E md as C with
      | some l => some l
      | none => ax_try w E md as cs) = some os := h
    cases e : ax_tr1 w E md as C with
    | none =>
      rw [e] at h
      exact ax_try_ok hX hE hT has (fun C' h' => hC C' (List.mem_cons_of_mem _ h')) h
    | some os' =>
      rw [e] at h
      cases h
      unfold ax_tr1 at e
      cases em : ax_match w E 0 C.1 as with
      | none => rw [em] at e; cases e
      | some m =>
        rw [em] at e
        obtain ⟨hmd, e⟩ := rx_cond e
        obtain ⟨m1, m2, m3⟩ := ax_match_ok hE has em
        have me := ax_match_me hE has em
        refine ax_wp_mono (hC C List.mem_cons_self _ hp asc m1 m2 hT) ?_
        rintro o ⟨po, hpo, ρ', r0, g1, g2, g3, g4, g5, g6, g7⟩
        obtain ⟨z, hz, hz2⟩ := ax_posts_ok e po hpo
        obtain ⟨rv, E'⟩ := z
        obtain ⟨r1, k1, k2, k3, k4, k5⟩ := ax_post_ok hX hE me g1 g4 g6 hz2
        rw [g2] at k1
        cases k1
        exact ⟨(rv, E'), hz, _, k3, k2, k4 _ g3, k5, g5, g6.wk (ax_mem_all hmd), g7⟩
theorem ax_ret_ok (hP : ∀ q ∈ P, rx_QW q ∧ rx_ST P K q) (hr : r ∈ P) {x : rx_E} {pc o : Nat} {oa : ax_O} {lvc st stc : List Nat} {Po : rx_O → Prop} (hl : rx_look (rx_cd r) pc = some x) (hc : ax_ctl x.2.2.2.1 = some o) (hE : ax_EO w X ρ E hp) (hT : ax_HT w hp) (hs : st.map (ax_ev E.1 ρ) = stc.map some)
    (h : ax_ret o (rx_rk (rx_n r)) st E = some oa) (ho : o ≤ 29) (hPo : ∀ o', ax_O1 w X md ρ E.1 hp oa o' → Po o') : ax_Wp P K r (pc, lvc, stc, hp, [], 0, 0) Po := by
  have key : oa.2 = E → ∀ v, ax_ev E.1 ρ oa.1 = some v → ax_O1 w X md ρ E.1 hp oa (v, hp, []) := fun e v hv => ⟨ρ, fun _ _ => rfl, by rw [e]; exact Nat.le_refl _, by rw [e]; exact hv, by rw [e]; exact hE, hT, ax_HR.rf, rfl⟩
  have hins : ∀ i, x.2.2.2.1 = i → ax_ctl i = some o := fun i hi => by rw [← hi]; exact hc
  match st, h with
  | [], h =>
    obtain ⟨hb, h⟩ := rx_cond h
    obtain ⟨b1, b2⟩ := rx_and2.mp hb
    have b1 := rx_beq.mp b1
    cases h
    have hst : stc = [] := by cases stc with | nil => rfl | cons _ _ => cases hs
    subst hst
    have hi : x.2.2.2.1 = .return_ := by
      revert hc
      cases x.2.2.2.1 <;> intro hc <;> first | rfl | (cases hc; omega) | cases hc
    refine ax_wp_ret hP hr (o := (2, hp, [])) hl (Or.inr (Or.inr (Or.inl ⟨hi, ?_⟩))) (hPo _ (key rfl 2 (ax_ev_c (v := 2) (by decide))))
    show (bif Nat.beq (rx_rk (rx_n r)) 0 && rx_fit (rx_n r) 0 0 then some [(2, hp, [])] else none) = _
    rw [b2]
    rfl
  | _ :: _ :: _, h => cases h
  | [v], h =>
    obtain ⟨xv, r', hst, hx, hr'⟩ := ax_evs_cons hs
    have : r' = [] := by cases r' with | nil => rfl | cons _ _ => cases hr'
    subst this
    subst hst
    unfold ax_ret at h
    dsimp only at h
    rcases ax_condY h with ⟨b1, h⟩ | ⟨-, h⟩
    · have b1 := rx_beq.mp b1
      have hi : x.2.2.2.1 = .ireturn := by
        revert hc
        cases x.2.2.2.1 <;> intro hc <;> first | rfl | (cases hc; omega) | cases hc
      cases ei : ax_iv E v with
      | none => rw [ei] at h; cases h
      | some i =>
        rw [ei] at h
        obtain ⟨hb, h⟩ := rx_cond h
        cases h
        obtain ⟨q0, q1, q2, q3⟩ := ax_iv_ok hE ei hx
        refine ax_wp_ret hP hr (o := (xv, hp, [])) hl (Or.inl ⟨hi, ?_⟩) (hPo _ (key rfl xv hx))
        show (bif rx_fit (rx_n r) 0 0 && ((Nat.beq (rx_rk (rx_n r)) 1 && rx_isI xv) || (Nat.beq (rx_rk (rx_n r)) 2 && rx_bit (rx_kn [] xv))) then some [(rx_kn [] xv, hp, [])] else none) = _
        rw [ax_kn, show rx_fit (rx_n r) 0 0 = true from rfl, Bool.true_and]
        have : ((Nat.beq (rx_rk (rx_n r)) 1 && rx_isI xv) || (Nat.beq (rx_rk (rx_n r)) 2 && rx_bit xv)) = true := by
          rcases rx_or2.mp hb with hb | hb
          · exact rx_or2.mpr (Or.inl (rx_and2.mpr ⟨hb, rx_or2.mpr (Or.inl (rx_beq.mpr q0))⟩))
          · obtain ⟨h1, hb⟩ := rx_and2.mp hb
            obtain ⟨h2, h3⟩ := rx_and2.mp hb
            exact rx_or2.mpr (Or.inr (rx_and2.mpr ⟨h1, ax_bit_ok q0 q1 (Nat.le_trans (rx_ble.mp h2) q2) (Nat.le_trans q3 (rx_ble.mp h3))⟩))
        rw [this]
        rfl
    rcases ax_condY h with ⟨b1, h⟩ | ⟨-, h⟩
    · have b1 := rx_beq.mp b1
      have hi : x.2.2.2.1 = .lreturn := by
        revert hc
        cases x.2.2.2.1 <;> intro hc <;> first | rfl | (cases hc; omega) | cases hc
      obtain ⟨hb, h⟩ := rx_cond h
      cases h
      obtain ⟨h1, h2⟩ := rx_and2.mp hb
      refine ax_wp_ret hP hr (o := (xv, hp, [])) hl (Or.inr (Or.inl ⟨hi, ?_⟩)) (hPo _ (key rfl xv hx))
      show (bif rx_fit (rx_n r) 0 0 && (Nat.beq (rx_rk (rx_n r)) 3 && rx_isJ xv) then some [(xv, hp, [])] else none) = _
      rw [show rx_fit (rx_n r) 0 0 = true from rfl, h1, show rx_isJ xv = true from rx_beq.mpr (ax_isK1 hE h2 hx)]
      rfl
    · obtain ⟨hb, h⟩ := rx_cond h
      cases h
      obtain ⟨b1, hb⟩ := rx_and2.mp hb
      obtain ⟨h1, h2⟩ := rx_and2.mp hb
      have b1 := rx_beq.mp b1
      have hi : x.2.2.2.1 = .areturn := by
        revert hc
        cases x.2.2.2.1 <;> intro hc <;> first | rfl | (cases hc; omega) | cases hc
      refine ax_wp_ret hP hr (o := (xv, hp, [])) hl (Or.inr (Or.inr (Or.inr ⟨hi, ?_⟩))) (hPo _ (key rfl xv hx))
      show (bif rx_fit (rx_n r) 0 0 && (Nat.beq (rx_rk (rx_n r)) 4 && rx_isA xv) then some [(xv, hp, [])] else none) = _
      rw [show rx_fit (rx_n r) 0 0 = true from rfl, h1, show rx_isA xv = true from rx_beq.mpr (ax_isRok hE h2 hx).1]
      rfl
end AXG
end
section
theorem ax_num_kd {pc : Nat} {ins : Instr} {z : Nat × Nat × Nat × List Nat} (h : ax_num pc ins = some z) : rx_kd ins = 0 := by
  cases ins <;> first | rfl | cases h
theorem ax_ctl_call {ins : Instr} {o : Nat} (h : ax_ctl ins = some o) (ho : 29 < o) : (o = 30 ∧ rx_kd ins = 4) ∨ (o = 31 ∧ rx_kd ins = 5) := by
  revert h
  cases ins <;> intro h <;> first | (cases h; omega) | (cases h; exact Or.inl ⟨rfl, rfl⟩) | (cases h; exact Or.inr ⟨rfl, rfl⟩) | cases h
/-- contracts of methods with fewer frames hold, and the tables are right -/
noncomputable def ax_Low (w : ax_W) (X : ax_X) (P : List rx_M) (AP : List ax_M) (P : List rx_M) (K : rx_K) (B : Nat) : Prop := ∀ (j : Nat) (q : rx_M) (m : ax_M), rx_nth P j = some q → rx_nth AP j = some m → ax_tab q m.1 ∧ (rx_rf (rx_n q) < B → ∀ C ∈ m.2, ax_Con w X P K q C)
noncomputable def ax_SGB (w : ax_W) (X : ax_X) (md : List (Nat × Nat)) (P : List rx_M) (P : List rx_M) (K : rx_K) (B : Nat) (g : rx_N → List (List ax_I) → ax_A → Option (List ax_O)) : Prop :=
  ∀ r ∈ P, rx_rf (rx_n r) ≤ B → ∀ cd, ax_tab r cd → ∀ (a : ax_A) (outs : List ax_O), g (rx_n r) cd a = some outs → ∀ (ρ : Nat → Nat) (hp : rx_H) (σ : rx_S), ax_R w X ρ a hp σ → ax_Wp P K r σ (ax_Out w X md ρ a.2.2.2.1 hp outs)
section AXK
variable {w : ax_W} {X : ax_X} {md : List (Nat × Nat)} {ρ : Nat → Nat} {hp : rx_H} {P : List rx_M} {K : rx_K} {AP : List ax_M} {l : Launch} {cy : Nat → ClassId} {D : va_G} {r : rx_M} {B : Nat} {β : Type}
theorem ax_cpy_ok (hX : ax_XD w X) {E : ax_E} {pc : Nat} {lv st lvc stc : List Nat} {a' : ax_A} (hE : ax_EO w X ρ E hp) (hT : ax_HT w hp) (hl : lv.map (ax_ev E.1 ρ) = lvc.map some) (hs : st.map (ax_ev E.1 ρ) = stc.map some) (h : ax_cpy w md pc lv st E = some a') : a'.2.2.2.1 = E.1 ∧ ∃ hp' σ', rx_cpy pc lvc stc hp [] 0 0 = some σ' ∧ ax_R w X ρ a' hp' σ' ∧ ax_HR w md hp hp' := by
  match st, h, hs with
  | [], h, _ => cases h
  | [_], h, _ => cases h
  | [_, _], h, _ => cases h
  | [_, _, _], h, _ => cases h
  | [_, _, _, _], h, _ => cases h
  | n :: dp :: d :: sp :: q :: st', h, hs =>
    unfold ax_cpy at h
    dsimp only at h
    obtain ⟨hc, h0⟩ := rx_cond h
    clear h
    obtain ⟨c1, c2⟩ := rx_and2.mp hc
    have c1 := rx_beq.mp c1
    have c2 := rx_beq.mp c2
    subst c1
    subst c2
    cases e1 : ax_rg w E d with
    | none => rw [e1] at h0; cases h0
    | some g =>
      cases e2 : ax_rg w E q with
      | none => rw [e1, e2] at h0; cases h0
      | some g2 =>
        rw [e1, e2] at h0
        dsimp only at h0
        rw [rx_nth_eq] at h0
        obtain ⟨nv, r1, rfl, hn, hr1⟩ := ax_evs_cons hs
        obtain ⟨dpv, r2, rfl, hdp, hr2⟩ := ax_evs_cons hr1
        obtain ⟨dv, r3, rfl, hd, hr3⟩ := ax_evs_cons hr2
        obtain ⟨spv, r4, rfl, hsp, hr4⟩ := ax_evs_cons hr3
        obtain ⟨qv, r5, rfl, hq, hr5⟩ := ax_evs_cons hr4
        cases (ax_ev_c (n := E.1) (ρ := ρ) (v := 0) (by decide)).symm.trans hdp
        cases (ax_ev_c (n := E.1) (ρ := ρ) (v := 0) (by decide)).symm.trans hsp
        obtain ⟨d1, d2, d3, d4, k, len, sg, fd, p1, p2, p3, p4⟩ := ax_cell hE hT hd e1
        obtain ⟨q1, q2, q3, q4, k', len', sg', fq, s1, s2, s3, s4⟩ := ax_cell hE hT hq e2
        rw [p1] at h0
        dsimp only at h0
        obtain ⟨hb, h9⟩ := rx_cond h0
        have h9 := Option.some.inj h9
        subst h9
        obtain ⟨b1, hb⟩ := rx_and2.mp hb
        obtain ⟨b2, hb⟩ := rx_and2.mp hb
        obtain ⟨b3, hb⟩ := rx_and2.mp hb
        obtain ⟨b4, hb⟩ := rx_and2.mp hb
        obtain ⟨b5, b6⟩ := rx_and2.mp hb
        have b1 := rx_beq.mp b1
        subst b1
        cases p1.symm.trans s1
        have b2 := rx_beq.mp b2
        subst b2
        have b3 : n = rx_int len := rx_beq.mp b3
        subst b3
        have e0 : rx_int len % 4 = 0 := by show 4 * len % 4 = 0; omega
        cases (ax_ev_c (n := E.1) (ρ := ρ) (v := rx_int len) (by omega)).symm.trans hn
        have hlt : dv / 4 - 2 < hp.1 := rx_hg_lt p2
        have hgs : ∀ z, rx_hg (rx_hs hp (dv / 4 - 2) (13, len, fq)) z = if z = dv / 4 - 2 then some (13, len, fq) else rx_hg hp z := fun z => rx_hg_hs hT.1 hlt
        have hHR : ax_HR w [(g, 999)] hp (rx_hs hp (dv / 4 - 2) (13, len, fq)) := by
          refine ⟨rfl, fun z g' hz k' n' l' hl' => ?_⟩
          rw [hgs]
          by_cases ez : z = dv / 4 - 2
          · subst ez
            cases hl'.symm.trans p2
            cases hz.symm.trans d4
            rw [if_pos rfl]
            refine ⟨_, rfl, fun i hi => ?_⟩
            have : ax_mem [(g, 999)] g i = true := List.any_eq_true.mpr ⟨(g, 999), List.mem_cons_self, rx_and2.mpr ⟨Nat.beq_refl g, rx_or2.mpr (Or.inr rfl)⟩⟩
            rw [this] at hi
            cases hi
          · rw [if_neg ez]
            exact ⟨l', hl', fun _ _ => rfl⟩
        refine ⟨rfl, rx_hs hp (dv / 4 - 2) (13, len, fq), (Nat.add pc 3, lvc, r5, rx_hs hp (dv / 4 - 2) (13, len, fq), [], 0, 0), ?_, ⟨rfl, hl, hr5, rfl, ⟨hE.1, hE.2.1, ?_, hE.2.2.2.1, ax_xkill_ok hX hE.2.2.2.2 hHR⟩, ⟨hT.1, ?_⟩⟩, hHR.wk (ax_mem_one b6)⟩
        · unfold rx_cpy
          dsimp only
          rw [show Nat.beq 0 0 = true from rfl, rx_beq.mpr (show rx_tk dv = 2 from d1), rx_ble.mpr (show 2 ≤ rx_pl dv from d2), rx_beq.mpr (show rx_tk qv = 2 from q1), rx_ble.mpr (show 2 ≤ rx_pl qv from q2), show rx_hg hp (Nat.sub (rx_pl qv) 2) = some (13, len, fq) from s2, show rx_hg hp (Nat.sub (rx_pl dv) 2) = some (13, len, fd) from p2]
          dsimp only [Bool.and_true, cond_true]
          rw [show Nat.beq 13 13 = true from rfl, Nat.beq_refl, Nat.beq_refl, b4, rx_ble.mpr (show rx_cat r5 ≤ 8 by rw [← ax_cat_ok hE hr5]; exact rx_ble.mp b5)]
          rfl
        · intro y hy
          obtain ⟨hy1, hy2⟩ := List.mem_filter.mp hy
          obtain ⟨a, i, v, k, mm, ll, g1, g2, g3, g4, g5, g6, g7, g8⟩ := hE.2.2.1 y hy1
          cases eg : ax_rg w E y.1 with
          | none => rw [eg] at hy2; cases hy2
          | some gy =>
            rw [eg] at hy2
            dsimp only at hy2
            obtain ⟨-, -, -, hw⟩ := ax_rg_ok hE eg g1
            have hne : a / 4 - 2 ≠ dv / 4 - 2 := fun z => by
              rw [z] at hw
              cases hw.symm.trans d4
              have : ([(g, 999)] : List (Nat × Nat)).any (fun y' => Nat.beq y'.1 g && (Nat.beq y'.2 999 || (!(ax_cst y.2.1) || Nat.beq y'.2 (rx_pl y.2.1)))) = true := List.any_eq_true.mpr ⟨(g, 999), List.mem_cons_self, rx_and2.mpr ⟨Nat.beq_refl g, rfl⟩⟩
              rw [this] at hy2
              cases hy2
            exact ⟨a, i, v, k, mm, ll, g1, g2, g3, g4, g5, g6, by rw [hgs, if_neg hne]; exact g7, g8⟩
        · intro z g' hz
          obtain ⟨k', n', l', f', t1, t2, t3, t4⟩ := hT.2 z g' hz
          by_cases ez : z = dv / 4 - 2
          · subst ez
            cases hz.symm.trans d4
            cases t1.symm.trans p1
            exact ⟨13, len, sg, fq, p1, by rw [hgs, if_pos rfl], s3, s4⟩
          · exact ⟨k', n', l', f', t1, by rw [hgs, if_neg ez]; exact t2, t3, t4⟩
theorem ax_primS_ok {E E2 : ax_E} {k : Nat} {st st2 stc : List Nat} (hE : ax_EO w X ρ E hp) (hs : st.map (ax_ev E.1 ρ) = stc.map some) (h : ax_primS k st E = some (st2, E2)) : E.1 ≤ E2.1 ∧ ∃ (ρ' : Nat → Nat) (stc2 : List Nat), rx_primS k stc = some stc2 ∧ (∀ j, j < E.1 → ρ' j = ρ j) ∧ ax_EO w X ρ' E2 hp ∧ st2.map (ax_ev E2.1 ρ') = stc2.map some := by
  have cst : ∀ (v x : Nat) (l : List Nat), rx_wrd v = some l → ax_ev E.1 ρ v = some x → x = v := by
    intro v x l hv hx
    obtain ⟨j, hj, hvj, -⟩ := rx_wrd_ok hv
    rw [ax_ev_c (by omega)] at hx
    exact (Option.some.inj hx).symm
  match st, h, hs with
  | [], h, _ => cases h
  | v :: st', h, hs =>
    unfold ax_primS at h
    dsimp only at h
    obtain ⟨vv, r1, rfl, hv, hr1⟩ := ax_evs_cons hs
    rcases ax_condY h with ⟨k3, h⟩ | ⟨k3, h⟩
    · cases hwd : rx_wrd v with
      | none => rw [hwd] at h; cases h
      | some l' =>
        rw [hwd] at h
        cases h
        have e := cst v vv l' hwd hv
        subst e
        refine ⟨Nat.le_refl _, ρ, rx_int (rx_len l') :: r1, ?_, fun _ _ => rfl, hE, ax_evs_push (ax_ev_c (by show 4 * rx_len l' % 4 ≠ 3; omega)) hr1⟩
        show (bif Nat.beq k 3 then rx_primL vv r1 else _) = _
        rw [k3, cond_true]
        unfold rx_primL
        rw [hwd]
    · rcases ax_condY h with ⟨k4, h⟩ | ⟨-, h⟩
      · match st', h, hr1 with
        | [], h, _ => cases h
        | a :: st3, h, hr1 =>
          dsimp only at h
          obtain ⟨av, r2, rfl, ha, hr2⟩ := ax_evs_cons hr1
          cases hwd : rx_wrd a with
          | none => rw [hwd] at h; cases h
          | some l' =>
            cases hiv : ax_iv E v with
            | none => rw [hwd, hiv] at h; cases h
            | some ii =>
              rw [hwd, hiv] at h
              dsimp only at h
              obtain ⟨hc, h⟩ := rx_cond h
              cases h
              obtain ⟨hin, hall⟩ := rx_and2.mp hc
              obtain ⟨hin1, hin2⟩ := rx_and2.mp hin
              have e := cst a av l' hwd ha
              subst e
              obtain ⟨v0, v1, v2, v3⟩ := ax_iv_ok hE hiv hv
              have hin1 : 2147483648 ≤ ii.1 := rx_ble.mp hin1
              have hin2 : ii.2 < rx_len l' + 2147483648 := rx_blt.mp hin2
              have hlt : vv / 4 < l'.length := by
                rw [← rx_len_eq]
                have hb : rx_bi (vv / 4) = (vv / 4 + 2147483648) % 4294967296 := rfl
                omega
              have hch : rx_nth l' (rx_pl vv) = some l'[vv / 4] := by
                rw [rx_nth_eq]
                exact List.getElem?_eq_getElem hlt
              have hc256 : l'[vv / 4] < 256 := rx_blt.mp (List.all_eq_true.mp hall _ (List.getElem_mem hlt))
              have hn : rx_int l'[vv / 4] % 4 = 0 ∧ rx_int l'[vv / 4] / 4 = l'[vv / 4] := by
                have : rx_int l'[vv / 4] = 4 * l'[vv / 4] := rfl
                omega
              obtain ⟨q1, ρ', q2, q3, q4⟩ := ax_val_ok hE (t := (0, 2147483648, 2147483903)) (x := rx_int l'[vv / 4]) (Or.inl ⟨rfl, hn.1, by rw [hn.2]; omega, by rw [hn.2]; show 2147483648 ≤ (l'[vv / 4] + 2147483648) % 4294967296; omega, by rw [hn.2]; show (l'[vv / 4] + 2147483648) % 4294967296 ≤ 2147483903; omega⟩)
              have hC : ∀ r, rx_primC vv (av :: r) = some (rx_int l'[vv / 4] :: r) := by
                intro r
                unfold rx_primC
                dsimp only
                rw [hwd]
                dsimp only
                rw [rx_beq.mpr (show rx_tk vv = 0 from v0), cond_true, hch]
              have hno : ax_NO X (ax_val E (0, 2147483648, 2147483903)).2.1 ρ' hp (1042, [av, v, (ax_val E (0, 2147483648, 2147483903)).1, 0, 0]) := by
                refine ⟨[av, vv, rx_int l'[vv / 4], 0, 0], ax_evs_push (ax_ev_mono q1 q2 ha) (ax_evs_push (ax_ev_mono q1 q2 hv) (ax_evs_push q4 (ax_evs_push (ax_ev_c (by decide)) (ax_evs_push (ax_ev_c (by decide)) rfl)))), ?_⟩
                exact (ax_XF_bi (o := 42) (by decide)).mpr (Or.inr (Or.inl ⟨rfl, hC []⟩))
              refine ⟨q1, ρ', rx_int l'[vv / 4] :: r2, ?_, q2, ax_addX_ok q3 hno, ax_evs_push q4 (ax_evs_mono q1 q2 hr2)⟩
              show (bif Nat.beq k 3 then rx_primL vv (av :: r2) else bif Nat.beq k 4 then rx_primC vv (av :: r2) else none) = _
              rw [k3, k4, cond_false, cond_true]
              exact hC r2
      · cases h
theorem ax_prim_ok {E E2 : ax_E} {k : Nat} {st st2 stc : List Nat} (hE : ax_EO w X ρ E hp) (hs : st.map (ax_ev E.1 ρ) = stc.map some) (h : ax_prim k st E = some (st2, E2)) : E.1 ≤ E2.1 ∧ ∃ (ρ' : Nat → Nat) (stc2 : List Nat), rx_prim k stc = some stc2 ∧ (∀ j, j < E.1 → ρ' j = ρ j) ∧ ax_EO w X ρ' E2 hp ∧ st2.map (ax_ev E2.1 ρ') = stc2.map some := by
  match st, h, hs with
  | [], h, _ => cases h
  | [_], h, _ => cases h
  | y :: x :: st', h, hs =>
    unfold ax_prim at h
    dsimp only at h
    cases ex : ax_iv E x with
    | none => rw [ex] at h; cases h
    | some ix =>
      cases ey : ax_iv E y with
      | none => rw [ex, ey] at h; cases h
      | some iy =>
        rw [ex, ey] at h
        dsimp only at h
        obtain ⟨yv, r1, rfl, hy, hr1⟩ := ax_evs_cons hs
        obtain ⟨xv, r2, rfl, hx, hr2⟩ := ax_evs_cons hr1
        obtain ⟨x0, x1, x2, x3⟩ := ax_iv_ok hE ex hx
        obtain ⟨y0, y1, y2, y3⟩ := ax_iv_ok hE ey hy
        have fin : ∀ (v lo hi : Nat), v % 4 = 0 → v / 4 < 4294967296 → lo ≤ rx_bi (v / 4) → rx_bi (v / 4) ≤ hi → some ((ax_val E (0, lo, hi)).1 :: st', ax_addX (ax_val E (0, lo, hi)).2 (Nat.add 1039 k, [x, y, (ax_val E (0, lo, hi)).1, 0, 0])) = some (st2, E2) → (k = 1 ∨ k = 2) → (∀ r, rx_prim k (yv :: xv :: r) = some (v :: r)) → E.1 ≤ E2.1 ∧ ∃ (ρ' : Nat → Nat) (stc2 : List Nat), rx_prim k (yv :: xv :: r2) = some stc2 ∧ (∀ j, j < E.1 → ρ' j = ρ j) ∧ ax_EO w X ρ' E2 hp ∧ st2.map (ax_ev E2.1 ρ') = stc2.map some := by
          intro v lo hi v0 v1 v2 v3 he hk12 hp'
          obtain ⟨n1, ρ', a1, a2, a3⟩ := ax_val_ok (t := (0, lo, hi)) hE (Or.inl ⟨rfl, v0, v1, v2, v3⟩)
          have he := Option.some.inj he
          have e1 : (ax_val E (0, lo, hi)).1 :: st' = st2 := congrArg Prod.fst he
          have e2 : ax_addX (ax_val E (0, lo, hi)).2 (Nat.add 1039 k, [x, y, (ax_val E (0, lo, hi)).1, 0, 0]) = E2 := congrArg Prod.snd he
          have hno : ax_NO X (ax_val E (0, lo, hi)).2.1 ρ' hp (Nat.add 1039 k, [x, y, (ax_val E (0, lo, hi)).1, 0, 0]) := by
            refine ⟨[xv, yv, v, 0, 0], ax_evs_push (ax_ev_mono n1 a1 hx) (ax_evs_push (ax_ev_mono n1 a1 hy) (ax_evs_push a3 (ax_evs_push (ax_ev_c (by decide)) (ax_evs_push (ax_ev_c (by decide)) rfl)))), ?_⟩
            show ax_XF X (1039 + k) [xv, yv, v, 0, 0] hp
            rw [show 1039 + k = 1000 + (39 + k) by omega]
            refine (ax_XF_bi (by omega)).mpr (Or.inl ⟨by omega, ?_⟩)
            rw [show 39 + k - 39 = k by omega]
            exact hp' []
          have a2' := ax_addX_ok a2 hno
          rw [e2] at a2'
          have e3 : (ax_val E (0, lo, hi)).2.1 = E2.1 := by rw [← e2]; rfl
          rw [e3] at n1 a3
          refine ⟨n1, ρ', v :: r2, hp' r2, a1, a2', ?_⟩
          rw [← e1]
          exact ax_evs_push a3 (ax_evs_mono n1 a1 hr2)
        have hprim : ∀ r, rx_prim k (yv :: xv :: r) = (bif Nat.beq k 1 then some ((bif Nat.blt (rx_bi (rx_pl xv)) (rx_bi (rx_pl yv)) then yv else xv) :: r) else bif Nat.beq k 2 then some ((bif Nat.blt (rx_bi (rx_pl yv)) (rx_bi (rx_pl xv)) then yv else xv) :: r) else none) := by
          intro r
          show (bif Nat.beq (rx_tk xv) 0 && Nat.beq (rx_tk yv) 0 then _ else none) = _
          rw [rx_beq.mpr (show rx_tk xv = 0 from x0), rx_beq.mpr (show rx_tk yv = 0 from y0)]
          rfl
        cases k1 : Nat.beq k 1 with
        | true =>
          have hk1 : k = 1 := rx_beq.mp k1
          rw [k1] at h
          simp only [k1, cond_true] at hprim
          dsimp only [cond_true] at h
          have mx := ax_max_l ix.1 iy.1
          by_cases hlt : rx_bi (xv / 4) < rx_bi (yv / 4)
          · simp only [show Nat.blt (rx_bi (rx_pl xv)) (rx_bi (rx_pl yv)) = true from rx_blt.mpr hlt, cond_true] at hprim
            exact fin yv _ _ y0 y1 (ax_max_le (by omega) y2) (Nat.le_trans y3 (ax_max_l _ _).2) h (Or.inl hk1) hprim
          · simp only [show Nat.blt (rx_bi (rx_pl xv)) (rx_bi (rx_pl yv)) = false from Bool.eq_false_iff.mpr (fun z => hlt (rx_blt.mp z)), cond_false] at hprim
            exact fin xv _ _ x0 x1 (ax_max_le x2 (by omega)) (Nat.le_trans x3 (ax_max_l _ _).1) h (Or.inl hk1) hprim
        | false =>
          rw [k1, cond_false] at h
          simp only [k1, cond_false] at hprim
          cases k2 : Nat.beq k 2 with
          | false => rw [k2] at h; cases h
          | true =>
            have hk2 : k = 2 := rx_beq.mp k2
            rw [k2] at h
            simp only [k2, cond_true] at hprim
            dsimp only [cond_true] at h
            by_cases hlt : rx_bi (yv / 4) < rx_bi (xv / 4)
            · simp only [show Nat.blt (rx_bi (rx_pl yv)) (rx_bi (rx_pl xv)) = true from rx_blt.mpr hlt, cond_true] at hprim
              exact fin yv _ _ y0 y1 (Nat.le_trans (ax_min_l _ _).2 y2) (ax_le_min (by omega) y3) h (Or.inr hk2) hprim
            · simp only [show Nat.blt (rx_bi (rx_pl yv)) (rx_bi (rx_pl xv)) = false from Bool.eq_false_iff.mpr (fun z => hlt (rx_blt.mp z)), cond_false] at hprim
              exact fin xv _ _ x0 x1 (Nat.le_trans (ax_min_l _ _).1 x2) (ax_le_min x3 (by omega)) h (Or.inr hk2) hprim
/-- ONE INSTRUCTION of the abstract interpreter, whatever comes then -/
theorem ax_go_ok (hP : ∀ q ∈ P, rx_QW q ∧ rx_ST P K q) (hX : ax_XD w X) (hA : ax_Low w X P AP P K B) (hr : r ∈ P) (hB : rx_rf (rx_n r) ≤ B) {cd : List (List ax_I)} (htab : ax_tab r cd) {g : rx_N → List (List ax_I) → ax_A → Option (List ax_O)} (hg : ax_SGB w X md P P K B g) {f : ax_A → Option (List β)} {z : ax_O → Option (List β)} {a : ax_A} {outs : List β} (h : ax_go w P K AP md g f z (rx_n r) cd a = some outs) {σ : rx_S} (hR : ax_R w X ρ a hp σ) {Po : rx_O → Prop}
    (hf : ∀ (a' : ax_A) (o' : List β), f a' = some o' → (∀ y ∈ o', y ∈ outs) → ∀ (ρ' : Nat → Nat) (hp' : rx_H) (σ' : rx_S), (∀ k, k < a.2.2.2.1 → ρ' k = ρ k) → a.2.2.2.1 ≤ a'.2.2.2.1 → ax_R w X ρ' a' hp' σ' → ax_HR w md hp hp' → ax_Wp P K r σ' Po)
    (hz : ∀ (oa : ax_O) (o' : List β), z oa = some o' → (∀ y ∈ o', y ∈ outs) → ∀ o, ax_O1 w X md ρ a.2.2.2.1 hp oa o → Po o) : ax_Wp P K r σ Po := by
  obtain ⟨pc, lv, st, E⟩ := a
  obtain ⟨spc, lvc, stc, rest0⟩ := σ
  obtain ⟨R1, R2, R3, R4, R5, R6⟩ := hR
  dsimp only at R1 R2 R3 R4 R5 hf hz
  subst R4
  subst R1
  unfold ax_go at h
  dsimp only at h
  cases hl : ax_lookI cd spc with
  | none => rw [hl] at h; cases h
  | some x =>
    rw [hl] at h
    dsimp only at h
    obtain ⟨⟨ch, hc1, hc2⟩, hpc⟩ := ax_lookI_ok hl
    obtain ⟨y, y1, y2, y3, y4⟩ := htab ch hc1 x hc2
    rw [hpc] at y1
    rcases ax_condY h with ⟨ho, h⟩ | ⟨ho, h⟩
    · have ho : x.2.1 ≤ 25 := rx_ble.mp ho
      rcases y4 with ⟨-, hn, htg⟩ | ⟨hlt, -⟩
      · rw [hpc] at hn
        cases hst : ax_step w K md (rx_mL (rx_n r)) spc x.2.1 x.2.2.1 x.2.2.2.1 x.2.2.2.2.1 x.2.2.2.2.2.1 x.2.2.2.2.2.2 lv st E with
        | none => rw [hst] at h; cases h
        | some out =>
          rw [hst] at h
          dsimp only at h
          obtain ⟨σ', s1, a', ha', ρ', hp', s2, s3, s4, s5⟩ := ax_step_ok (N := rx_n r) hX hn htg R5 R6 R2 R3 hst
          obtain ⟨o', o1, o2⟩ := rx_all_ok h a' ha'
          refine ax_wp_step hP hr y1 (ax_num_kd hn) ?_ (hf a' o' o1 o2 ρ' hp' σ' s2 s3 s4 s5)
          rw [y2, y3]
          exact s1
      · omega
    · have ho : 25 < x.2.1 := Nat.not_le.mp (fun q => by rw [rx_ble.mpr q] at ho; cases ho)
      rcases y4 with ⟨hle, -⟩ | ⟨-, hctl⟩
      · omega
      rcases ax_condY h with ⟨ho2, h⟩ | ⟨ho2, h⟩
      · have ho2 : x.2.1 ≤ 29 := rx_ble.mp ho2
        cases hret : ax_ret x.2.1 (rx_rk (rx_n r)) st E with
        | none => rw [hret] at h; cases h
        | some oa =>
          rw [hret] at h
          exact ax_ret_ok hP hr y1 hctl R5 R6 R3 hret ho2 (fun o' ho' => hz oa outs h (fun _ hy => hy) o' ho')
      · have ho2 : 29 < x.2.1 := Nat.not_le.mp (fun q => by rw [rx_ble.mpr q] at ho2; cases ho2)
        have hkd := ax_ctl_call hctl ho2
        unfold ax_cl at h
        rcases ax_condY h with ⟨-, h⟩ | ⟨n1, h⟩
        · cases h
        have n1 : Nat.beq x.2.2.2.2.2.1 1 = false := n1
        rcases ax_condY h with ⟨n2, h⟩ | ⟨n2, h⟩
        · obtain ⟨hb, h⟩ := rx_cond h
          obtain ⟨b1, b2⟩ := rx_and2.mp hb
          have b1 := rx_beq.mp b1
          cases hcp : ax_cpy w md spc lv st E with
          | none => rw [hcp] at h; cases h
          | some a' =>
            rw [hcp] at h
            dsimp only at h
            obtain ⟨en, hp', σ', c1, c2, c3⟩ := ax_cpy_ok hX R5 R6 R2 R3 hcp
            refine ax_wp_cpy hP hr y1 ?_ ?_ c1 b2 (hf a' outs h (fun _ hy => hy) ρ hp' σ' (fun _ _ => rfl) (Nat.le_of_eq en.symm) c2 c3)
            · rcases hkd with ⟨k1, -⟩ | ⟨-, k2⟩
              · omega
              · exact k2
            · rw [y3]
              exact rx_beq.mp n2
        rcases ax_condY h with ⟨n3, h⟩ | ⟨n3, h⟩
        · rcases ax_condY h with ⟨hb, h⟩ | ⟨-, h⟩
          · obtain ⟨b1, b2⟩ := rx_and2.mp hb
            have b1 := rx_beq.mp b1
            cases hpr : ax_prim (Nat.div x.2.2.2.2.2.1 4) st E with
            | none => rw [hpr] at h; cases h
            | some z2 =>
              obtain ⟨st2, E2⟩ := z2
              rw [hpr] at h
              dsimp only at h
              obtain ⟨h9, h⟩ := rx_cond h
              obtain ⟨en, ρ', stc2, c1, c2, c3, c4⟩ := ax_prim_ok R5 R3 hpr
              refine ax_wp_prim hP hr y1 ?_ y3 (fun z => by rw [z] at n1; cases n1) (fun z => by rw [z] at n2; cases n2) (rx_beq.mp n3) c1 b2 (by rw [← ax_cat_ok c3 c4]; exact rx_ble.mp h9) (hf _ outs h (fun _ hy => hy) ρ' hp _ c2 en ⟨rfl, ax_evs_mono en c2 R2, c4, rfl, c3, R6⟩ ax_HR.rf)
              rcases hkd with ⟨k1, -⟩ | ⟨-, k2⟩
              · omega
              · exact k2
          · obtain ⟨hb, h⟩ := rx_cond h
            obtain ⟨b1, b2⟩ := rx_and2.mp hb
            have b1 := rx_beq.mp b1
            cases hpr : ax_primS (Nat.div x.2.2.2.2.2.1 4) st E with
            | none => rw [hpr] at h; cases h
            | some z2 =>
              obtain ⟨st2, E2⟩ := z2
              rw [hpr] at h
              dsimp only at h
              obtain ⟨h9, h⟩ := rx_cond h
              obtain ⟨en, ρ', stc2, c1, c2, c3, c4⟩ := ax_primS_ok R5 R3 hpr
              refine ax_wp_primS hP hr y1 ?_ y3 (fun z => by rw [z] at n1; cases n1) (fun z => by rw [z] at n2; cases n2) (rx_beq.mp n3) c1 b2 (by rw [← ax_cat_ok c3 c4]; exact rx_ble.mp h9) (hf _ outs h (fun _ hy => hy) ρ' hp _ c2 en ⟨rfl, ax_evs_mono en c2 R2, c4, rfl, c3, R6⟩ ax_HR.rf)
              rcases hkd with ⟨-, k1⟩ | ⟨k2, -⟩
              · exact k1
              · omega
        · cases hq : rx_nth P x.2.2.2.2.1 with
          | none => rw [hq] at h; cases h
          | some q =>
            rw [hq] at h
            dsimp only at h
            cases hsp : rx_spl (bif Nat.beq x.2.1 31 then rx_np (rx_n q) else Nat.succ (rx_np (rx_n q))) st [] with
            | none => rw [hsp] at h; cases h
            | some ar =>
              obtain ⟨as, rest⟩ := ar
              rw [hsp] at h
              dsimp only at h
              obtain ⟨hb, h⟩ := rx_cond h
              obtain ⟨b1, b2⟩ := rx_and2.mp hb
              unfold ax_cok at b2
              obtain ⟨k1, b2⟩ := rx_and2.mp b2
              obtain ⟨k2, b2⟩ := rx_and2.mp b2
              obtain ⟨k3, b2⟩ := rx_and2.mp b2
              obtain ⟨k4, b2⟩ := rx_and2.mp b2
              obtain ⟨k5, b2⟩ := rx_and2.mp b2
              obtain ⟨k6, b2⟩ := rx_and2.mp b2
              obtain ⟨k7, k8⟩ := rx_and2.mp b2
              have k2' : rx_rf (rx_n q) + 1 ≤ rx_rf (rx_n r) := rx_ble.mp k2
              obtain ⟨asc, restc, g1, g2, g3⟩ := ax_spl_ok (accc := []) R3 rfl hsp
              have hqP : q ∈ P := by rw [rx_nth_eq] at hq; exact List.mem_of_getElem? hq
              have o5 : Nat.beq y.2.1 5 = Nat.beq x.2.1 31 ∧ (Nat.beq y.2.1 4 || Nat.beq y.2.1 5) = true := by
                obtain ⟨⟨ch', hc1', hc2'⟩, -⟩ := rx_look_ok y1
                obtain ⟨-, o2, -⟩ := (hP r hr).2 ch' hc1' y hc2'
                rcases hkd with ⟨p1, p2⟩ | ⟨p1, p2⟩
                · rw [o2, p2, p1]; exact ⟨rfl, rfl⟩
                · rw [o2, p2, p1]; exact ⟨rfl, rfl⟩
              have hrc : (Nat.beq x.2.1 31 || rx_rcv hp (Nat.div x.2.2.2.2.2.1 4) asc) = true := by
                rcases rx_or2.mp b1 with b1 | b1
                · exact rx_or2.mpr (Or.inl b1)
                · refine rx_or2.mpr (Or.inr ?_)
                  match as, b1, g2 with
                  | [], b1, _ => cases b1
                  | v :: as', b1, g2 =>
                    obtain ⟨vv, r', rfl, hv, -⟩ := ax_evs_cons g2
                    unfold ax_rcv at b1
                    dsimp only at b1
                    cases eg : ax_rg w E v with
                    | none => rw [eg] at b1; cases b1
                    | some gg =>
                      rw [eg] at b1
                      dsimp only at b1
                      obtain ⟨h1, h2, h3, h4, k, n, ll, ff, p1, p2, p3, p4⟩ := ax_cell R5 R6 hv eg
                      rw [rx_nth_eq, p1] at b1
                      show rx_obj hp (Nat.div x.2.2.2.2.2.1 4) vv = true
                      unfold rx_obj
                      rw [show rx_hg hp (Nat.sub (rx_pl vv) 2) = some (k, n, ff) from p2]
                      exact rx_and2.mpr ⟨rx_beq.mpr h1, rx_and2.mpr ⟨rx_ble.mpr h2, b1⟩⟩
              have hcal : rx_cal P r x.2.2.2.2.1 (spc, lvc, stc, hp, [], 0, 0) = some (asc, restc) := by
                unfold rx_cal
                dsimp only
                rw [y1]
                dsimp only
                rw [hq]
                dsimp only
                rw [o5.1, g1]
                dsimp only
                rw [show (Nat.beq y.2.1 4 || Nat.beq x.2.1 31) = true by rw [← o5.1]; exact o5.2, y2, y3, Nat.beq_refl, n1, show Nat.beq x.2.2.2.2.2.1 2 = false from n2, show Nat.beq (Nat.mod x.2.2.2.2.2.1 4) 1 = false from n3, hrc]
                have hcok : rx_cok (rx_n r) (rx_n q) asc restc 0 0 = true := by
                  unfold rx_cok
                  rw [← ax_cat_ok R5 g3, ← ax_cat_ok R5 g2]
                  refine rx_and2.mpr ⟨k1, rx_and2.mpr ⟨k2, rx_and2.mpr ⟨k3, rx_and2.mpr ⟨?_, rx_and2.mpr ⟨?_, k6⟩⟩⟩⟩⟩
                  · rw [show Nat.add 0 (rx_rc (rx_n q)) = rx_rc (rx_n q) from Nat.zero_add _]; exact k4
                  · rw [show Nat.add 0 (rx_rs (rx_n q)) = rx_rs (rx_n q) from Nat.zero_add _]; exact k5
                rw [hcok]
                rfl
              unfold ax_inv at h
              cases hap : rx_nth AP x.2.2.2.2.1 with
              | none => rw [hap] at h; cases h
              | some m =>
                obtain ⟨cdq, cs⟩ := m
                rw [hap] at h
                dsimp only at h
                obtain ⟨tq, cq⟩ := hA _ q _ hq hap
                have main : ∀ os, (bif ax_nil cs then g (rx_n q) cdq (0, ax_args E as (rx_mL (rx_n q)), [], E) else ax_try w E md as cs) = some os → ax_Wp P K q (rx_ent q asc (spc, lvc, stc, hp, [], 0, 0)) (ax_Out w X md ρ E.1 hp os) := by
                  intro os hos
                  rcases ax_condY hos with ⟨-, hos⟩ | ⟨-, hos⟩
                  · exact hg q hqP (by omega) cdq tq _ os hos ρ hp _ ⟨rfl, ax_args_ok R5 g2, rfl, rfl, R5, R6⟩
                  · exact ax_try_ok hX R5 R6 g2 (cq (by omega)) hos
                generalize hos : (bif ax_nil cs then g (rx_n q) cdq (0, ax_args E as (rx_mL (rx_n q)), [], E) else ax_try w E md as cs) = oss at h main
                cases oss with
                | none => cases h
                | some os =>
                  replace h : rx_all (ax_aft f (rx_rk (rx_n q)) spc lv rest) os = some outs := h
                  refine ax_wp_call hP hr hq hcal (main os rfl) ?_
                  rintro o ⟨oa, hoa, ρ', q1, q2, q3, q4, q5, q6, q7⟩
                  obtain ⟨o', o1, o2⟩ := rx_all_ok h oa hoa
                  have kk7 : rx_rc (rx_n q) = 0 := rx_beq.mp k7
                  have kk8 : rx_rs (rx_n q) = 0 := rx_beq.mp k8
                  have e : rx_bh q restc (spc, lvc, stc, hp, [], 0, 0) o = (Nat.add spc 3, lvc, (bif Nat.beq (rx_rk (rx_n q)) 0 then restc else o.1 :: restc), o.2.1, [], 0, 0) := by
                    unfold rx_bh
                    dsimp only
                    rw [kk7, kk8, q7]
                  rw [e]
                  refine hf (Nat.add spc 3, lv, (bif Nat.beq (rx_rk (rx_n q)) 0 then rest else oa.1 :: rest), oa.2) o' o1 o2 ρ' o.2.1 _ q1 q2 ⟨rfl, ax_evs_mono q2 q1 R2, ?_, rfl, q4, q5⟩ q6
                  cases Nat.beq (rx_rk (rx_n q)) 0 with
                  | true => exact ax_evs_mono q2 q1 g3
                  | false => exact ax_evs_push q3 (ax_evs_mono q2 q1 g3)
/-- A METHOD RUN INLINE -/
theorem ax_rn_ok (hP : ∀ q ∈ P, rx_QW q ∧ rx_ST P K q) (hX : ax_XD w X) (hA : ax_Low w X P AP P K B) : ∀ n, ax_SGB w X md P P K B (ax_rn w P K AP md n) := by
  intro n
  induction n with
  | zero => intro r _ _ cd _ a outs h; cases h
  | succ n ih =>
    intro r hr hB cd ht a outs h ρ hp σ hR
    replace h : ax_go w P K AP md (ax_rn w P K AP md n) (ax_rn w P K AP md n (rx_n r) cd) (fun o => some [o]) (rx_n r) cd a = some outs := h
    refine ax_go_ok hP hX hA hr hB ht ih h hR ?_ ?_
    · intro a' o' h1 hsub ρ' hp' σ' q1 q2 q3 q4
      refine ax_wp_mono (ih r hr hB cd ht a' o' h1 ρ' hp' σ' q3) ?_
      rintro o ⟨oa, hoa, ρ2, s1, s2, s3, s4, s5, s6, s7⟩
      exact ⟨oa, hsub _ hoa, ρ2, fun k hk => (s1 k (Nat.lt_of_lt_of_le hk q2)).trans (q1 k hk), Nat.le_trans q2 s2, s3, s4, s5, q4.tr s6, s7⟩
    · intro oa o' h1 hsub o ho
      cases h1
      exact ⟨oa, hsub _ List.mem_cons_self, ho⟩
end AXK
end
section
/-! Rules: what may be concluded at a place: pc, a pattern of locals and stack, what holds then (one of these; of none: it can't be), symbols of the pattern that lie between two numbers -/
abbrev ax_RL : Type := Nat × ax_T × List ax_T × List (Nat × Nat × Nat)
/-- what a template forgets (2) is forgotten -/
noncomputable def ax_mask (ts : List Nat) : List Nat → List Nat := List.rec (motive := fun _ => List Nat → List Nat) (fun vs => vs) (fun t _ ih vs => match vs with
  | v :: vs' => (bif Nat.beq t 2 then 2 else v) :: ih vs'
  | [] => []) ts
noncomputable def ax_rfs (m : List (Nat × Nat)) (E : ax_E) (rf : List (Nat × Nat × Nat)) : Option ax_E := List.rec (motive := fun _ => Option ax_E) (some E) (fun x _ ih => match ax_lk m x.1 with
  | some v => ax_bind ih (fun E1 => ax_refine E1 v x.2.1 x.2.2)
  | none => ih) rf
/-- symbols of the pattern that a conclusion narrows: codes 1000 + k -/
noncomputable def ax_prf (n0 : Nat) (E : ax_E) (cs : List Nat) : List (Nat × Nat × Nat) := List.rec (motive := fun _ => List (Nat × Nat × Nat)) [] (fun c _ ih => bif Nat.ble 1000 c && (Nat.blt (Nat.sub c 1000) n0 && Nat.blt (Nat.sub c 1000) (ax_n E)) then (match rx_nth (ax_ty E) (Nat.sub (Nat.sub (ax_n E) 1) (Nat.sub c 1000)) with
  | some t => bif Nat.beq t.1 0 then (Nat.sub c 1000, t.2.1, t.2.2) :: ih else ih
  | none => ih) else ih) cs
noncomputable def ax_rfp (n0 : Nat) (m : List (Nat × Nat)) (rf : List (Nat × Nat × Nat)) (ps : List ax_T) : List ax_E → List ax_E := List.rec (motive := fun _ => List ax_E → List ax_E) (fun _ => []) (fun po _ ih os => match os with
  | o :: os' => (match ax_rfs m o (ax_prf n0 po.2 po.1 ++ rf) with
    | some E => E :: ih os'
    | none => ih os')
  | [] => []) ps
noncomputable def ax_rl1 (w : ax_W) (r : ax_RL) (a : ax_A) : Option (List ax_E) := match ax_match w a.2.2.2 0 r.2.1 (ax_mask r.2.1.1 (a.2.1 ++ a.2.2.1)) with
  | some m => (match ax_rpos w a.2.2.2 m (ax_n r.2.1.2) r.2.2.1 with
    | some os => some (ax_rfp (ax_n r.2.1.2) m r.2.2.2 r.2.2.1 os)
    | none => none)
  | none => none
noncomputable def ax_rlf (f : ax_A → List ax_A) (a : ax_A) (es : List ax_E) : List ax_A := List.rec (motive := fun _ => List ax_A) [] (fun E _ ih => f (a.1, a.2.1, a.2.2.1, E) ++ ih) es
noncomputable def ax_rls (w : ax_W) (rl : List ax_RL) : ax_A → List ax_A := List.rec (motive := fun _ => ax_A → List ax_A) (fun a => [a]) (fun r _ ih a => bif Nat.beq r.1 a.1 then (match ax_rl1 w r a with
  | some es => ax_rlf ih a es
  | none => ih a) else ih a) rl
theorem ax_mask_ev {n : Nat} {ρ : Nat → Nat} : ∀ {ts vs xs : List Nat}, vs.map (ax_ev n ρ) = xs.map some → (ax_mask ts vs).map (ax_ev n ρ) = (ax_mask ts xs).map some
  | [], vs, xs, h => h
  | t :: ts, [], [], _ => rfl
  | t :: ts, [], _ :: _, h => by cases h
  | t :: ts, _ :: _, [], h => by cases h
  | t :: ts, v :: vs, x :: xs, h => by
    obtain ⟨x', r', e, hx, h⟩ := ax_evs_cons h
    cases e
    show List.map _ ((bif Nat.beq t 2 then 2 else v) :: ax_mask ts vs) = List.map some ((bif Nat.beq t 2 then 2 else x) :: ax_mask ts xs)
    refine ax_evs_push ?_ (ax_mask_ev h)
    cases Nat.beq t 2 with
    | true => exact ax_ev_c (v := 2) (by decide)
    | false => exact hx
section AXR
variable {w : ax_W} {X : ax_X} {ρ : Nat → Nat} {hp : rx_H}
/-- a rule is right -/
noncomputable def ax_RO (w : ax_W) (X : ax_X) (r : ax_RL) : Prop := ∀ (ρ : Nat → Nat) (hp : rx_H), ax_EO w X ρ r.2.1.2 hp → ax_HT w hp → (∀ x ∈ r.2.2.2, x.2.1 ≤ rx_bi (ρ x.1 / 4) ∧ rx_bi (ρ x.1 / 4) ≤ x.2.2) ∧ ∃ po ∈ r.2.2.1, ∃ ρ' : Nat → Nat, (∀ k, k < ax_n r.2.1.2 → ρ' k = ρ k) ∧ ax_EO w X ρ' po.2 hp
theorem ax_rlf_in {f : ax_A → List ax_A} {a a1 : ax_A} : ∀ {es : List ax_E} {E : ax_E}, E ∈ es → a1 ∈ f (a.1, a.2.1, a.2.2.1, E) → a1 ∈ ax_rlf f a es
  | [], _, h, _ => by cases h
  | p :: es, E, h, h1 => by
    show a1 ∈ f (a.1, a.2.1, a.2.2.1, p) ++ ax_rlf f a es
    rcases List.mem_cons.mp h with rfl | h
    · exact List.mem_append_left _ h1
    · exact List.mem_append_right _ (ax_rlf_in h h1)
theorem ax_rfs_ok {E : ax_E} {m : List (Nat × Nat)} (hE : ax_EO w X ρ E hp) : ∀ {rf : List (Nat × Nat × Nat)}, (∀ x ∈ rf, ∀ v, ax_lk m x.1 = some v → ∃ y, ax_ev E.1 ρ v = some y ∧ x.2.1 ≤ rx_bi (y / 4) ∧ rx_bi (y / 4) ≤ x.2.2) → ∃ E', ax_rfs m E rf = some E' ∧ ax_EO w X ρ E' hp ∧ ax_Sm E E'
  | [], _ => ⟨E, rfl, hE, ax_Sm.rf⟩
  | x :: rf, h => by
    obtain ⟨E1, f1, f2, f3⟩ := ax_rfs_ok hE (rf := rf) (fun y hy => h y (List.mem_cons_of_mem _ hy))
    show ∃ E', (match ax_lk m x.1 with
      | some v => ax_bind (ax_rfs m E rf) (fun E1 => ax_refine E1 v x.2.1 x.2.2)
      | none => ax_rfs m E rf) = some E' ∧ _
    cases e : ax_lk m x.1 with
    | none => exact ⟨E1, f1, f2, f3⟩
    | some v =>
      obtain ⟨y, hy, h1, h2⟩ := h x List.mem_cons_self v e
      obtain ⟨E2, g1, g2, g3⟩ := ax_refine_ok f2 (by rw [f3.1]; exact hy) h1 h2
      refine ⟨E2, ?_, g2, f3.tr g3⟩
      show ax_bind (ax_rfs m E rf) (fun E1 => ax_refine E1 v x.2.1 x.2.2) = some E2
      rw [f1]
      exact g1
theorem ax_prf_ok {n0 : Nat} {E : ax_E} (hE : ax_EO w X ρ E hp) : ∀ {cs : List Nat}, ∀ x ∈ ax_prf n0 E cs, x.1 < n0 ∧ x.2.1 ≤ rx_bi (ρ x.1 / 4) ∧ rx_bi (ρ x.1 / 4) ≤ x.2.2
  | [], x, hx => by cases hx
  | c :: cs, x, hx => by
    replace hx : x ∈ (bif Nat.ble 1000 c && (Nat.blt (Nat.sub c 1000) n0 && Nat.blt (Nat.sub c 1000) (ax_n E)) then (match rx_nth (ax_ty E) (Nat.sub (Nat.sub (ax_n E) 1) (Nat.sub c 1000)) with
      | some t => bif Nat.beq t.1 0 then (Nat.sub c 1000, t.2.1, t.2.2) :: ax_prf n0 E cs else ax_prf n0 E cs
      | none => ax_prf n0 E cs) else ax_prf n0 E cs) := hx
    generalize Nat.sub c 1000 = k at hx
    cases hb : (Nat.ble 1000 c && (Nat.blt (k) n0 && Nat.blt (k) (ax_n E))) with
    | false => rw [hb, cond_false] at hx; exact ax_prf_ok hE x hx
    | true =>
      rw [hb, cond_true] at hx
      obtain ⟨_, hb⟩ := rx_and2.mp hb
      obtain ⟨b1, b2⟩ := rx_and2.mp hb
      have b1 := rx_blt.mp b1
      have b2 := rx_blt.mp b2
      cases et : rx_nth (ax_ty E) (Nat.sub (Nat.sub (ax_n E) 1) (k)) with
      | none => rw [et] at hx; exact ax_prf_ok hE x hx
      | some t =>
        rw [et] at hx
        dsimp only at hx
        cases h0 : Nat.beq t.1 0 with
        | false => rw [h0, cond_false] at hx; exact ax_prf_ok hE x hx
        | true =>
          rw [h0, cond_true] at hx
          rcases List.mem_cons.mp hx with e | hx
          · rw [rx_nth_eq] at et
            subst e
            have h := hE.2.1 (k) t b2 et
            have h0 := rx_beq.mp h0
            rcases h with ⟨_, _, _, h3, h4⟩ | ⟨h, _⟩ | ⟨h, _⟩ | ⟨h, _⟩
            · exact ⟨b1, h3, h4⟩
            · exact absurd (h0.symm.trans h) (by decide)
            · exact absurd (h0.symm.trans h) (by decide)
            · exact absurd (h0.symm.trans h) (by decide)
          · exact ax_prf_ok hE x hx
theorem ax_rfp_in {E : ax_E} {n0 n1 : Nat} {m : List (Nat × Nat)} {rf : List (Nat × Nat × Nat)} : ∀ {ps : List ax_T} {os : List ax_E}, ax_rpos w E m n0 ps = some os → ∀ po ∈ ps, ∃ o, ax_rpo w E m n0 po = some o ∧ ∀ E', ax_rfs m o (ax_prf n1 po.2 po.1 ++ rf) = some E' → E' ∈ ax_rfp n1 m rf ps os
  | [], os, _ => by intro po hpo; cases hpo
  | p :: ps, os, h => by
    replace h : (match ax_rpo w E m n0 p, ax_rpos w E m n0 ps with
      | some q, some r => some (q :: r)
      | _, _ => none) = some os := h
    cases e1 : ax_rpo w E m n0 p with
    | none => rw [e1] at h; cases h
    | some q =>
      cases e2 : ax_rpos w E m n0 ps with
      | none => rw [e1, e2] at h; cases h
      | some r =>
        rw [e1, e2] at h
        cases h
        intro po hpo
        rcases List.mem_cons.mp hpo with e | hpo
        · refine ⟨q, by rw [e]; exact e1, fun E' he => ?_⟩
          rw [e] at he
          show E' ∈ (match ax_rfs m q (ax_prf n1 p.2 p.1 ++ rf) with
            | some E => E :: ax_rfp n1 m rf ps r
            | none => ax_rfp n1 m rf ps r)
          rw [he]
          exact List.mem_cons_self
        · obtain ⟨o, z1, z2⟩ := ax_rfp_in (n1 := n1) (rf := rf) e2 po hpo
          refine ⟨o, z1, fun E' he => ?_⟩
          have ih := z2 E' he
          show E' ∈ (match ax_rfs m q (ax_prf n1 p.2 p.1 ++ rf) with
            | some E => E :: ax_rfp n1 m rf ps r
            | none => ax_rfp n1 m rf ps r)
          cases ax_rfs m q (ax_prf n1 p.2 p.1 ++ rf) with
          | some E => exact List.mem_cons_of_mem _ ih
          | none => exact ih
theorem ax_rl1_ok (hX : ax_XD w X) {r : ax_RL} (hr : ax_RO w X r) {a : ax_A} {σ : rx_S} (hR : ax_R w X ρ a hp σ) {es : List ax_E} (h : ax_rl1 w r a = some es) : ∃ E ∈ es, ∃ ρ' : Nat → Nat, (∀ k, k < a.2.2.2.1 → ρ' k = ρ k) ∧ a.2.2.2.1 ≤ E.1 ∧ ax_R w X ρ' (a.1, a.2.1, a.2.2.1, E) hp σ := by
  obtain ⟨R1, R2, R3, R4, R5, R6⟩ := hR
  unfold ax_rl1 at h
  cases em : ax_match w a.2.2.2 0 r.2.1 (ax_mask r.2.1.1 (a.2.1 ++ a.2.2.1)) with
  | none => rw [em] at h; cases h
  | some m =>
    rw [em] at h
    dsimp only at h
    cases ep : ax_rpos w a.2.2.2 m (ax_n r.2.1.2) r.2.2.1 with
    | none => rw [ep] at h; cases h
    | some os =>
      rw [ep] at h
      cases h
      have hvs : (a.2.1 ++ a.2.2.1).map (ax_ev a.2.2.2.1 ρ) = (σ.2.1 ++ σ.2.2.1).map some := by
        rw [List.map_append, List.map_append, R2, R3]
      have hvm := ax_mask_ev (ts := r.2.1.1) hvs
      obtain ⟨m1, m2, m3⟩ := ax_match_ok R5 hvm em
      have me := ax_match_me R5 hvm em
      obtain ⟨hrf, po, hpo, ρ1, g1, g2⟩ := hr _ hp m2 R6
      obtain ⟨E', hz2, hin⟩ := ax_rfp_in (n1 := ax_n r.2.1.2) (rf := r.2.2.2) ep po hpo
      obtain ⟨k2, k3, k5⟩ := ax_rpo_ok R5 me g1 g2 hz2
      obtain ⟨E2, q1, q2, q3⟩ := ax_rfs_ok (m := m) (rf := ax_prf (ax_n r.2.1.2) po.2 po.1 ++ r.2.2.2) k5 (fun x hx v hv => by
        obtain ⟨y, hy⟩ := me x.1 v hv
        refine ⟨y, ax_ev_mono k2 k3 hy, ?_⟩
        have e : ax_rm 0 m a.2.2.2.1 ρ x.1 = y := by
          unfold ax_rm
          rw [if_neg (Nat.not_lt_zero _), hv]
          show (ax_ev a.2.2.2.1 ρ v).getD 0 = y
          rw [hy]
          rfl
        rcases List.mem_append.mp hx with hx | hx
        · obtain ⟨p1, p2, p3⟩ := ax_prf_ok g2 x hx
          rw [g1 x.1 p1, e] at p2 p3
          exact ⟨p2, p3⟩
        · have := hrf x hx
          rw [e] at this
          exact this)
      have k2' : a.2.2.2.1 ≤ E2.1 := by rw [q3.1]; exact k2
      exact ⟨E2, hin E2 q1, _, k3, k2', ⟨R1, ax_evs_mono k2' k3 R2, ax_evs_mono k2' k3 R3, R4, q2, R6⟩⟩
/-- a place of a state (0 .. 102) lies in one of five pieces -/
theorem ax_ro_sg {pc : Nat} {ts : List Nat} : ax_RO w X (pc, (ts, (1, [(0, 2147483648, 2147483750)], [], [], [])), [([1000], (1, [(0, 2147483648, 2147483688)], [], [], [])), ([1000], (1, [(0, 2147483689, 2147483700)], [], [], [])), ([1000], (1, [(0, 2147483701, 2147483724)], [], [], [])), ([1000], (1, [(0, 2147483725, 2147483736)], [], [], [])), ([1000], (1, [(0, 2147483737, 2147483750)], [], [], []))], []) := by
  intro ρ hp hE hT
  have h := hE.2.1 0 (0, 2147483648, 2147483750) (Nat.zero_lt_one) rfl
  rcases h with ⟨h0, h1, h2, h3, h4⟩ | ⟨h, _⟩ | ⟨h, _⟩ | ⟨h, _⟩
  · have mk : ∀ l u : Nat, l ≤ rx_bi (ρ 0 / 4) → rx_bi (ρ 0 / 4) ≤ u → ax_EO w X ρ (1, [(0, l, u)], [], [], []) hp := fun l u z1 z2 => by
      refine ⟨rfl, fun k t hk ht => ?_, fun y hy => absurd hy List.not_mem_nil, fun y hy => absurd hy List.not_mem_nil, fun y hy => absurd hy List.not_mem_nil⟩
      have e : k = 0 := Nat.lt_one_iff.mp hk
      subst e
      cases ht
      exact Or.inl ⟨h0, h1, h2, z1, z2⟩
    refine ⟨fun x hx => absurd hx List.not_mem_nil, ?_⟩
    generalize hz : rx_bi (ρ 0 / 4) = z at h3 h4 mk
    replace h3 : 2147483648 ≤ z := h3
    replace h4 : z ≤ 2147483750 := h4
    by_cases c1 : z ≤ 2147483688
    · exact ⟨_, List.mem_cons_self, ρ, fun _ _ => rfl, mk _ _ h3 c1⟩
    by_cases c2 : z ≤ 2147483700
    · exact ⟨_, List.mem_cons_of_mem _ List.mem_cons_self, ρ, fun _ _ => rfl, mk _ _ (by omega) c2⟩
    by_cases c3 : z ≤ 2147483724
    · exact ⟨_, List.mem_cons_of_mem _ (List.mem_cons_of_mem _ List.mem_cons_self), ρ, fun _ _ => rfl, mk _ _ (by omega) c3⟩
    by_cases c4 : z ≤ 2147483736
    · exact ⟨_, List.mem_cons_of_mem _ (List.mem_cons_of_mem _ (List.mem_cons_of_mem _ List.mem_cons_self)), ρ, fun _ _ => rfl, mk _ _ (by omega) c4⟩
    · exact ⟨_, List.mem_cons_of_mem _ (List.mem_cons_of_mem _ (List.mem_cons_of_mem _ (List.mem_cons_of_mem _ List.mem_cons_self))), ρ, fun _ _ => rfl, mk _ _ (by omega) h4⟩
  · exact absurd h (by decide)
  · exact absurd h (by decide)
  · exact absurd h (by decide)
/-- rules, one after the other -/
theorem ax_rls_ok (hX : ax_XD w X) : ∀ {rl : List ax_RL}, (∀ r ∈ rl, ax_RO w X r) → ∀ {ρ : Nat → Nat} {a : ax_A} {σ : rx_S}, ax_R w X ρ a hp σ → ∃ a1 ∈ ax_rls w rl a, ∃ ρ' : Nat → Nat, (∀ k, k < a.2.2.2.1 → ρ' k = ρ k) ∧ a.2.2.2.1 ≤ a1.2.2.2.1 ∧ ax_R w X ρ' a1 hp σ
  | [], _, ρ, a, σ, hR => ⟨a, List.mem_cons_self, ρ, fun _ _ => rfl, Nat.le_refl _, hR⟩
  | r :: rl, hrl, ρ, a, σ, hR => by
    show ∃ a1 ∈ (bif Nat.beq r.1 a.1 then (match ax_rl1 w r a with
      | some es => ax_rlf (ax_rls w rl) a es
      | none => ax_rls w rl a) else ax_rls w rl a), _
    have nxt : ∀ {ρ : Nat → Nat} {a : ax_A}, ax_R w X ρ a hp σ → ∃ a1 ∈ ax_rls w rl a, ∃ ρ' : Nat → Nat, (∀ k, k < a.2.2.2.1 → ρ' k = ρ k) ∧ a.2.2.2.1 ≤ a1.2.2.2.1 ∧ ax_R w X ρ' a1 hp σ := fun hR => ax_rls_ok hX (fun r' h' => hrl r' (List.mem_cons_of_mem _ h')) hR
    cases hb : Nat.beq r.1 a.1 with
    | false => exact nxt hR
    | true =>
      rw [cond_true]
      cases e : ax_rl1 w r a with
      | none => exact nxt hR
      | some es =>
        obtain ⟨E, ho, ρ1, g1, g2, g3⟩ := ax_rl1_ok hX (hrl r List.mem_cons_self) hR e
        obtain ⟨a1, h1, ρ2, k1, k2, k3⟩ := nxt g3
        exact ⟨a1, ax_rlf_in ho h1, ρ2, fun k hk => (k1 k (Nat.lt_of_lt_of_le hk g2)).trans (g1 k hk), Nat.le_trans g2 k2, k3⟩
end AXR
end
section
/-! Loops: heads with templates; a symbol of a head that rises (1) or falls (2), or of which a fact says that it falls (3) -/
/-- a place to come to: pc, how many symbols are the same, how it is measured, by which symbol, template -/
abbrev ax_G : Type := Nat × Nat × Nat × Nat × ax_T
noncomputable def ax_ms3 (l : List Nat) (v k : Nat) : Bool := match l with
  | [x, y] => Nat.beq x v && Nat.beq y k
  | _ => false
noncomputable def ax_ms (E : ax_E) (fl k : Nat) (m : List (Nat × Nat)) : Bool :=
  bif Nat.beq fl 0 then true else (match ax_lk m k with
    | some v => bif Nat.beq fl 3 then (ax_xf E).any (fun x => Nat.beq x.1 1030 && ax_ms3 x.2 v (ax_sym k)) else (ax_df E).any (fun d => (Nat.beq d.1 (ax_sym k) && (Nat.beq d.2.2 v && (Nat.beq (rx_tk d.2.1) 0 && (bif Nat.beq fl 1 then Nat.blt 0 (rx_pl d.2.1) && Nat.blt (rx_pl d.2.1) 2147483648 else Nat.ble 2147483648 (rx_pl d.2.1) && Nat.blt (rx_pl d.2.1) 4294967296)))) || (Nat.beq fl 2 && (Nat.beq d.1 v && (Nat.beq d.2.2 (ax_sym k) && (Nat.beq (rx_tk d.2.1) 0 && (Nat.blt 0 (rx_pl d.2.1) && Nat.blt (rx_pl d.2.1) 2147483648))))))
    | none => false)
noncomputable def ax_hit (w : ax_W) (a : ax_A) (t : ax_G) : Bool := Nat.beq a.1 t.1 && (ax_nil a.2.2.1 && (match ax_match w a.2.2.2 t.2.1 t.2.2.2.2 (ax_mask t.2.2.2.2.1 a.2.1) with
  | some m => ax_ms a.2.2.2 t.2.2.1 t.2.2.2.1 m
  | none => false))
/-- the pcs that have a rule, as bits: a step at any other asks no rule -/
noncomputable def ax_rmk (rl : List ax_RL) : Nat := List.rec (motive := fun _ => Nat) 0 (fun r _ ih => Nat.lor (Nat.shiftLeft 1 r.1) ih) rl
noncomputable def ax_rlq (w : ax_W) (rl : List ax_RL) (a : ax_A) : List ax_A := bif Nat.beq (Nat.land (Nat.shiftRight (ax_rmk rl) a.1) 1) 0 then [a] else ax_rls w rl a
theorem ax_rlq_ok {w : ax_W} {X : ax_X} {hp : rx_H} (hX : ax_XD w X) {rl : List ax_RL} (hrl : ∀ r ∈ rl, ax_RO w X r) {ρ : Nat → Nat} {a : ax_A} {σ : rx_S} (hR : ax_R w X ρ a hp σ) : ∃ a1 ∈ ax_rlq w rl a, ∃ ρ' : Nat → Nat, (∀ k, k < a.2.2.2.1 → ρ' k = ρ k) ∧ a.2.2.2.1 ≤ a1.2.2.2.1 ∧ ax_R w X ρ' a1 hp σ := by
  unfold ax_rlq
  cases Nat.beq (Nat.land (Nat.shiftRight (ax_rmk rl) a.1) 1) 0 with
  | true => exact ax_rls_ok hX (rl := []) (fun r h => absurd h List.not_mem_nil) hR
  | false => exact ax_rls_ok hX hrl hR
noncomputable def ax_tp (w : ax_W) (P : List rx_M) (K : rx_K) (AP : List ax_M) (md : List (Nat × Nat)) (g : rx_N → List (List ax_I) → ax_A → Option (List ax_O)) (rl : List ax_RL) (sp : List Nat) (rn : rx_N) (cd : List (List ax_I)) (n : Nat) : ax_A → Option (List (Nat × ax_A)) := Nat.rec (fun _ => none) (fun _ ih a => rx_all (fun b => ax_go w P K AP md g (fun a' => bif sp.any (fun p => Nat.beq p a'.1) then some [(0, a')] else ih a') (fun o => some [(1, (0, [], [o.1], o.2))]) rn cd b) (ax_rlq w rl a)) n
noncomputable def ax_end (w : ax_W) (n0 : Nat) (ps : List ax_T) (tg : List ax_G) (x : Nat × ax_A) : Bool := bif Nat.beq x.1 0 then tg.any (fun t => ax_hit w x.2 t) else ps.any (fun po => match ax_match w x.2.2.2.2 n0 po x.2.2.2.1 with
  | some _ => true
  | none => false)
/-- what all checks of a method have in common: world, methods, code, what may be written, ends, places to stop, steps -/
noncomputable def ax_blk (w : ax_W) (P : List rx_M) (K : rx_K) (AP : List ax_M) (md : List (Nat × Nat)) (rn : rx_N) (cd : List (List ax_I)) (n0 : Nat) (ps : List ax_T) (rl : List ax_RL) (sp : List Nat) (n : Nat) (tg : List ax_G) (a : ax_A) : Bool := match ax_tp w P K AP md (ax_rn w P K AP md n) rl sp rn cd n a with
  | some l => l.all (fun x => ax_end w n0 ps tg x)
  | none => false
/-- loops in loops: pc, measure, symbol, template -/
noncomputable def ax_Tr : Nat → Type := fun d => Nat.rec Unit (fun _ t => List ((Nat × Nat × Nat × ax_T) × t)) d
noncomputable def ax_ckS {τ : Type} (blk : List ax_G → ax_A → Bool) (ih : Nat → List ax_G → τ → Option (List ax_G)) (f : Nat) (tg : List ax_G) (h : (Nat × Nat × Nat × ax_T) × τ) (later : Option (List ax_G)) : Option (List ax_G) := match later with
  | some tl => (match ih (ax_n h.1.2.2.2.2) ((bif Nat.beq h.1.2.1 0 then [] else [(h.1.1, f, h.1.2.1, h.1.2.2.1, h.1.2.2.2)]) ++ (tl ++ tg)) h.2 with
    | some inner => bif Nat.ble f (ax_n h.1.2.2.2.2) && (((Nat.beq h.1.2.1 0 || Nat.ble f h.1.2.2.1) && (Nat.ble h.1.2.1 3 && Nat.blt h.1.2.2.1 (ax_n h.1.2.2.2.2))) && blk (inner ++ ((bif Nat.beq h.1.2.1 0 then [] else [(h.1.1, f, h.1.2.1, h.1.2.2.1, h.1.2.2.2)]) ++ (tl ++ tg))) (h.1.1, h.1.2.2.2.1, [], h.1.2.2.2.2)) then some ((h.1.1, f, 0, 0, h.1.2.2.2) :: tl) else none
    | none => none)
  | none => none
noncomputable def ax_ckL {τ : Type} (blk : List ax_G → ax_A → Bool) (ih : Nat → List ax_G → τ → Option (List ax_G)) (f : Nat) (tg : List ax_G) (tr : List ((Nat × Nat × Nat × ax_T) × τ)) : Option (List ax_G) := List.rec (motive := fun _ => Option (List ax_G)) (some []) (fun h _ later => ax_ckS blk ih f tg h later) tr
noncomputable def ax_ck (blk : List ax_G → ax_A → Bool) (d : Nat) : Nat → List ax_G → ax_Tr d → Option (List ax_G) := Nat.rec (motive := fun d => Nat → List ax_G → ax_Tr d → Option (List ax_G)) (fun _ _ _ => some []) (fun d ih f tg (tr : List ((Nat × Nat × Nat × ax_T) × ax_Tr d)) => ax_ckL blk ih f tg tr) d
/-- A CONTRACT IS CHECKED -/
noncomputable def ax_chk (w : ax_W) (P : List rx_M) (K : rx_K) (AP : List ax_M) (rn : rx_N) (cd : List (List ax_I)) (C : ax_C) (rl : List ax_RL) (sp : List Nat) (n d : Nat) (tr : ax_Tr d) : Bool := match ax_ck (ax_blk w P K AP C.2.1 rn cd (ax_n C.1.2) C.2.2 rl sp n) d (ax_n C.1.2) [] tr with
  | some tl => ax_blk w P K AP C.2.1 rn cd (ax_n C.1.2) C.2.2 rl sp n tl (0, ax_args C.1.2 C.1.1 (rx_mL rn), [], C.1.2) && C.2.2.all (fun po => match po.1 with
    | [_] => true
    | _ => false)
  | none => false
-- it is right
noncomputable def ax_mu (ρ : Nat → Nat) (fl k : Nat) : Nat := if fl = 3 then ρ k else if fl = 1 then 4294967296 - rx_bi (ρ k / 4) else rx_bi (ρ k / 4)
section AXL
variable {w : ax_W} {X : ax_X} {md : List (Nat × Nat)} {ρ : Nat → Nat} {hp hp0 : rx_H} {P : List rx_M} {K : rx_K} {AP : List ax_M} {l : Launch} {cy : Nat → ClassId} {D : va_G} {r : rx_M} {B : Nat} {Po : rx_O → Prop}
/-- whoever comes there ends well -/
noncomputable def ax_TV (w : ax_W) (X : ax_X) (md : List (Nat × Nat)) (hp0 : rx_H) (P : List rx_M) (K : rx_K) (r : rx_M) (Po : rx_O → Prop) (ρ : Nat → Nat) (t : ax_G) : Prop := ∀ (ρ' : Nat → Nat) (hp' : rx_H) (σ' : rx_S), (∀ k, k < t.2.1 → ρ' k = ρ k) → ax_R w X ρ' (t.1, t.2.2.2.2.1, [], t.2.2.2.2.2) hp' σ' → ax_HR w md hp0 hp' → (t.2.2.1 ≠ 0 → ax_mu ρ' t.2.2.1 t.2.2.2.1 < ax_mu ρ t.2.2.1 t.2.2.2.1) → ax_Wp P K r σ' Po
noncomputable def ax_fz (f : Nat) (t : ax_G) : Prop := t.2.1 ≤ f ∧ (t.2.2.1 ≠ 0 → t.2.2.2.1 < f)
theorem ax_TV.ag {t : ax_G} {ρ' : Nat → Nat} {f : Nat} (h : ax_TV w X md hp0 P K r Po ρ t) (hf : ax_fz f t) (ha : ∀ k, k < f → ρ' k = ρ k) : ax_TV w X md hp0 P K r Po ρ' t := by
  intro ρ2 hp2 σ2 h1 h2 h3 h4
  refine h ρ2 hp2 σ2 (fun k hk => (h1 k hk).trans (ha k (Nat.lt_of_lt_of_le hk hf.1))) h2 h3 (fun hn => ?_)
  have := h4 hn
  unfold ax_mu at this ⊢
  rw [ha _ (hf.2 hn)] at this
  exact this
theorem ax_ms_ok {E : ax_E} (hE : ax_EO w X ρ E hp) {fl k f : Nat} {m : List (Nat × Nat)} (hm : ax_me E.1 ρ m) (hfl : fl = 1 ∨ fl = 2 ∨ fl = 3) (hkf : f ≤ k) (h : ax_ms E fl k m = true) : ax_mu (ax_rm f m E.1 ρ) fl k < ax_mu ρ fl k := by
  unfold ax_ms at h
  rw [show Nat.beq fl 0 = false from Bool.eq_false_iff.mpr (fun z => by have := rx_beq.mp z; omega), cond_false] at h
  cases ev : ax_lk m k with
  | none => rw [ev] at h; cases h
  | some v =>
    rw [ev] at h
    dsimp only at h
    obtain ⟨x, hx⟩ := hm k v ev
    have e : ax_rm f m E.1 ρ k = x := by
      unfold ax_rm
      rw [if_neg (by omega), ev]
      show (ax_ev E.1 ρ v).getD 0 = x
      rw [hx]
      rfl
    have sk : ∀ y, ax_ev E.1 ρ (ax_sym k) = some y → ρ k = y := by
      intro y hy
      unfold ax_ev at hy
      have e1 : ax_sym k % 4 = 3 := by show (4 * k + 3) % 4 = 3; omega
      have e2 : ax_sym k / 4 = k := by show (4 * k + 3) / 4 = k; omega
      rw [if_pos e1, e2] at hy
      by_cases hl : k < E.1
      · rw [if_pos hl] at hy; exact Option.some.inj hy
      · rw [if_neg hl] at hy; cases hy
    rcases ax_condY h with ⟨h3, h⟩ | ⟨h3, h⟩
    · have h3 := rx_beq.mp h3
      subst h3
      obtain ⟨d, hd, hz⟩ := List.any_eq_true.mp h
      obtain ⟨z1, z2⟩ := rx_and2.mp hz
      have z1 := rx_beq.mp z1
      obtain ⟨d1, d2⟩ := d
      dsimp only at z1
      subst z1
      unfold ax_ms3 at z2
      split at z2
      · rename_i x' y' hxy
        obtain ⟨z3, z4⟩ := rx_and2.mp z2
        have z3 := rx_beq.mp z3
        have z4 := rx_beq.mp z4
        subst z3 z4
        obtain ⟨vs, q1, q2⟩ := hE.2.2.2.2 _ hd
        dsimp only at hxy q1 q2
        rw [hxy] at q1
        obtain ⟨x1, r1, e3, k1, p1⟩ := ax_evs_cons q1
        obtain ⟨x2, r2, e4, k2, p2⟩ := ax_evs_cons p1
        have e5 : r2 = [] := by cases r2 with | nil => rfl | cons _ _ => cases p2
        subst e5 e4 e3
        cases k1.symm.trans hx
        unfold ax_mu
        rw [if_pos rfl, if_pos rfl, e, sk _ k2]
        rcases (ax_XF_bi (o := 30) (by decide)).mp q2 with ⟨k', k3, k4, -⟩ | ⟨-, k5⟩
        · omega
        · exact k5
      · cases z2
    have hfl : fl = 1 ∨ fl = 2 := by
      have : fl ≠ 3 := fun z => by rw [z] at h3; cases h3
      omega
    have hn3 : ¬ (fl = 3) := by omega
    obtain ⟨d, hd, hz⟩ := List.any_eq_true.mp h
    obtain ⟨a, b, c, g1, g2, g3, g4, g5, g6, g7⟩ := hE.2.2.2.1 d hd
    have tk0 : ∀ u y, Nat.beq (rx_tk u) 0 = true → ax_ev E.1 ρ u = some y → y = u := by
      intro u y hu hy
      have hu : u % 4 = 0 := rx_beq.mp hu
      rw [ax_ev_c (by omega)] at hy
      exact (Option.some.inj hy).symm
    have d4 : ∀ z : Nat, 4 * z / 4 = z := fun z => by omega
    rcases rx_or2.mp hz with hz | hz
    · obtain ⟨z1, hz⟩ := rx_and2.mp hz
      obtain ⟨z2, hz⟩ := rx_and2.mp hz
      obtain ⟨z3, z4⟩ := rx_and2.mp hz
      have z1 := rx_beq.mp z1
      have z2 := rx_beq.mp z2
      rw [z1] at g1
      rw [z2, hx] at g3
      have hk := sk _ g1
      have hx4 := Option.some.inj g3
      have hb := tk0 _ _ z3 g2
      have hpl : rx_pl d.2.1 = b := by show d.2.1 / 4 = b; rw [← hb, d4]
      rw [hpl] at z4
      unfold ax_mu
      rw [if_neg hn3, if_neg hn3, e, hk, hx4, d4, d4]
      rw [ax_bi_def, ax_bi_def, ax_bi_def] at g7
      rcases hfl with rfl | rfl
      · rw [if_pos rfl, if_pos rfl]
        replace z4 : (Nat.blt 0 b && Nat.blt b 2147483648) = true := z4
        obtain ⟨p1, p2⟩ := rx_and2.mp z4
        have p1 := rx_blt.mp p1
        have p2 := rx_blt.mp p2
        rw [ax_bi_def, ax_bi_def]
        omega
      · rw [if_neg (by decide), if_neg (by decide)]
        replace z4 : (Nat.ble 2147483648 b && Nat.blt b 4294967296) = true := z4
        obtain ⟨p1, p2⟩ := rx_and2.mp z4
        have p1 := rx_ble.mp p1
        have p2 := rx_blt.mp p2
        rw [ax_bi_def, ax_bi_def]
        omega
    · obtain ⟨z0, hz⟩ := rx_and2.mp hz
      obtain ⟨z1, hz⟩ := rx_and2.mp hz
      obtain ⟨z2, hz⟩ := rx_and2.mp hz
      obtain ⟨z3, hz⟩ := rx_and2.mp hz
      obtain ⟨p1, p2⟩ := rx_and2.mp hz
      have z0 := rx_beq.mp z0
      subst z0
      have z1 := rx_beq.mp z1
      have z2 := rx_beq.mp z2
      rw [z1, hx] at g1
      rw [z2] at g3
      have hk := sk _ g3
      have hx4 := Option.some.inj g1
      have hb := tk0 _ _ z3 g2
      have hpl : rx_pl d.2.1 = b := by show d.2.1 / 4 = b; rw [← hb, d4]
      rw [hpl] at p1 p2
      have p1 := rx_blt.mp p1
      have p2 := rx_blt.mp p2
      unfold ax_mu
      rw [if_neg hn3, if_neg hn3, e, hk, hx4, d4, d4, if_neg (by decide), if_neg (by decide)]
      rw [ax_bi_def, ax_bi_def, ax_bi_def] at g7
      rw [ax_bi_def, ax_bi_def]
      omega
/-- a run up to the next stops -/
theorem ax_tp_ok (hP : ∀ q ∈ P, rx_QW q ∧ rx_ST P K q) (hX : ax_XD w X) (hA : ax_Low w X P AP P K B) (hr : r ∈ P) (hB : rx_rf (rx_n r) ≤ B) {cd : List (List ax_I)} (htab : ax_tab r cd) {g : rx_N → List (List ax_I) → ax_A → Option (List ax_O)} (hg : ax_SGB w X md P P K B g) {rl : List ax_RL} (hrl : ∀ x ∈ rl, ax_RO w X x) {sp : List Nat} : ∀ (n : Nat) (a : ax_A) (lst : List (Nat × ax_A)), ax_tp w P K AP md g rl sp (rx_n r) cd n a = some lst → ∀ (ρ : Nat → Nat) (hp : rx_H) (σ : rx_S), ax_R w X ρ a hp σ → ax_HR w md hp0 hp →
    (∀ x ∈ lst, ∀ (ρ' : Nat → Nat) (hp' : rx_H), (∀ k, k < a.2.2.2.1 → ρ' k = ρ k) → a.2.2.2.1 ≤ x.2.2.2.2.1 → ax_HR w md hp0 hp' → (x.1 = 0 → ∀ σ', ax_R w X ρ' x.2 hp' σ' → ax_Wp P K r σ' Po) ∧ (x.1 = 1 → ∀ (o : rx_O) (v : Nat), x.2.2.2.1 = [v] → ax_ev x.2.2.2.2.1 ρ' v = some o.1 → ax_EO w X ρ' x.2.2.2.2 hp' → ax_HT w hp' → o.2 = (hp', []) → Po o)) → ax_Wp P K r σ Po
  | 0, a, lst, h, _, _, _, _, _, _ => by cases h
  | n + 1, a, lst, h, ρ, hp, σ, hR, hH, hc => by
    replace h : rx_all (fun b => ax_go w P K AP md g (fun a' => bif sp.any (fun p => Nat.beq p a'.1) then some [(0, a')] else ax_tp w P K AP md g rl sp (rx_n r) cd n a') (fun o => some [(1, (0, [], [o.1], o.2))]) (rx_n r) cd b) (ax_rlq w rl a) = some lst := h
    obtain ⟨b, hb, ρb, b1, b2, b3⟩ := ax_rlq_ok hX hrl hR
    obtain ⟨lb, h, hbl⟩ := rx_all_ok h b hb
    refine ax_go_ok hP hX hA hr hB htab hg h b3 ?_ ?_
    · intro a' o' h1 hsub ρ' hp' σ' q1 q2 q3 q4
      have q1' : ∀ k, k < a.2.2.2.1 → ρ' k = ρ k := fun k hk => (q1 k (Nat.lt_of_lt_of_le hk b2)).trans (b1 k hk)
      have q2' : a.2.2.2.1 ≤ a'.2.2.2.1 := Nat.le_trans b2 q2
      rcases ax_condY h1 with ⟨-, h1⟩ | ⟨-, h1⟩
      · cases h1
        exact (hc (0, a') (hbl _ (hsub _ List.mem_cons_self)) ρ' hp' q1' q2' (hH.tr q4)).1 rfl σ' q3
      · refine ax_tp_ok hP hX hA hr hB htab hg hrl n a' o' h1 ρ' hp' σ' q3 (hH.tr q4) ?_
        intro x hx ρ2 hp2 s1 s2 s3
        exact hc x (hbl x (hsub x hx)) ρ2 hp2 (fun k hk => (s1 k (Nat.lt_of_lt_of_le hk q2')).trans (q1' k hk)) (Nat.le_trans q2' s2) s3
    · intro oa o' h1 hsub o ho
      cases h1
      obtain ⟨ρ', s1, s2, s3, s4, s5, s6, s7⟩ := ho
      have s1' : ∀ k, k < a.2.2.2.1 → ρ' k = ρ k := fun k hk => (s1 k (Nat.lt_of_lt_of_le hk b2)).trans (b1 k hk)
      have hc' := (hc (1, (0, [], [oa.1], oa.2)) (hbl _ (hsub _ List.mem_cons_self)) ρ' o.2.1 s1' (Nat.le_trans b2 s2) (hH.tr s6)).2 rfl o oa.1 rfl s3 s4 s5
      exact hc' (by obtain ⟨o1, o2, o3⟩ := o; dsimp only at s7; rw [s7])
theorem ax_mask_len : ∀ (ts xs : List Nat), (ax_mask ts xs).length = xs.length
  | [], xs => rfl
  | t :: ts, [] => rfl
  | t :: ts, x :: xs => by
    show ((bif Nat.beq t 2 then 2 else x) :: ax_mask ts xs).length = _
    rw [List.length_cons, List.length_cons, ax_mask_len ts xs]
theorem ax_mask_get : ∀ (ts xs : List Nat) (i v : Nat), (ax_mask ts xs)[i]? = some v → v ≠ 2 → xs[i]? = some v
  | [], xs, i, v, h, _ => h
  | t :: ts, [], i, v, h, _ => by cases h
  | t :: ts, x :: xs, 0, v, h, hv => by
    replace h : some (bif Nat.beq t 2 then 2 else x) = some v := h
    cases hb : Nat.beq t 2 with
    | true => rw [hb] at h; cases h; exact absurd rfl hv
    | false => rw [hb] at h; exact h
  | t :: ts, x :: xs, i + 1, v, h, hv => by
    replace h : (ax_mask ts xs)[i]? = some v := h
    exact ax_mask_get ts xs i v h hv
noncomputable def ax_wf (t : ax_G) : Prop := t.2.2.1 = 0 ∨ ((t.2.2.1 = 1 ∨ t.2.2.1 = 2 ∨ t.2.2.1 = 3) ∧ t.2.1 ≤ t.2.2.2.1)
/-- how a contract's ends are meant -/
noncomputable def ax_PO (w : ax_W) (X : ax_X) (md : List (Nat × Nat)) (hp0 : rx_H) (n0 : Nat) (ps : List ax_T) (ρ0 : Nat → Nat) (o : rx_O) : Prop := ∃ po ∈ ps, ∃ (ρ' : Nat → Nat) (r : Nat), (∀ k, k < n0 → ρ' k = ρ0 k) ∧ po.1 = [r] ∧ ax_ev po.2.1 ρ' r = some o.1 ∧ ax_EO w X ρ' po.2 o.2.1 ∧ ax_HT w o.2.1 ∧ ax_HR w md hp0 o.2.1 ∧ o.2.2 = []
theorem ax_blk_ok (hP : ∀ q ∈ P, rx_QW q ∧ rx_ST P K q) (hX : ax_XD w X) (hA : ax_Low w X P AP P K B) (hr : r ∈ P) (hB : rx_rf (rx_n r) ≤ B) {cd : List (List ax_I)} (htab : ax_tab r cd) {rl : List ax_RL} (hrl : ∀ x ∈ rl, ax_RO w X x) {sp : List Nat} {n n0 : Nat} {ps : List ax_T} {tg : List ax_G} {a : ax_A} {ρ0 : Nat → Nat} {σ : rx_S} (h : ax_blk w P K AP md (rx_n r) cd n0 ps rl sp n tg a = true) (hps : ∀ po ∈ ps, ∃ v, po.1 = [v])
    (hR : ax_R w X ρ a hp σ) (hH : ax_HR w md hp0 hp) (hn0 : n0 ≤ a.2.2.2.1) (hρ0 : ∀ k, k < n0 → ρ k = ρ0 k) (htg : ∀ t ∈ tg, ax_wf t ∧ t.2.1 ≤ a.2.2.2.1 ∧ ax_fz a.2.2.2.1 t ∧ ax_TV w X md hp0 P K r (ax_PO w X md hp0 n0 ps ρ0) ρ t) : ax_Wp P K r σ (ax_PO w X md hp0 n0 ps ρ0) := by
  unfold ax_blk at h
  cases ht : ax_tp w P K AP md (ax_rn w P K AP md n) rl sp (rx_n r) cd n a with
  | none => rw [ht] at h; cases h
  | some lst =>
    rw [ht] at h
    refine ax_tp_ok hP hX hA hr hB htab (ax_rn_ok hP hX hA n) hrl n a lst ht ρ hp σ hR hH ?_
    intro x hx ρ' hp' q1 q2 q3
    have he := List.all_eq_true.mp h x hx
    unfold ax_end at he
    refine ⟨fun x0 σ' hR' => ?_, fun x1 o v hv hev hE' hT' ho => ?_⟩
    · rw [x0, show Nat.beq 0 0 = true from rfl, cond_true] at he
      obtain ⟨t, ht1, ht2⟩ := List.any_eq_true.mp he
      obtain ⟨b1, ht2⟩ := rx_and2.mp ht2
      obtain ⟨b2, ht2⟩ := rx_and2.mp ht2
      cases hm : ax_match w x.2.2.2.2 t.2.1 t.2.2.2.2 (ax_mask t.2.2.2.2.1 x.2.2.1) with
      | none => rw [hm] at ht2; cases ht2
      | some m =>
        rw [hm] at ht2
        dsimp only at ht2
        obtain ⟨hwf, hft, hfz, hTV⟩ := htg t ht1
        obtain ⟨s1, s2, s3, s4⟩ := σ'
        obtain ⟨R1, R2', R3, R4, R5, R6⟩ := hR'
        have R2 := ax_mask_ev (ts := t.2.2.2.2.1) R2'
        obtain ⟨m1, m2, m3⟩ := ax_match_ok R5 R2 hm
        dsimp only at R1 R2 R3 R4 m1
        have hst : s3 = [] := by
          cases hz : x.2.2.2.1 with
          | nil => rw [hz] at R3; cases s3 with | nil => rfl | cons _ _ => cases R3
          | cons _ _ => rw [hz] at b2; cases b2
        subst hst
        subst R4
        refine ax_wp_forget hP hr (ax_mask_len t.2.2.2.2.1 s2) (ax_mask_get t.2.2.2.2.1 s2) ?_
        refine hTV (ax_rm t.2.1 m x.2.2.2.2.1 ρ') hp' _ (fun k hk => (ax_rm_lt hk).trans (q1 k (Nat.lt_of_lt_of_le hk hft))) ⟨R1.trans (rx_beq.mp b1), m1, rfl, rfl, m2, R6⟩ q3 (fun hn => ?_)
        rcases hwf with hw | ⟨hw1, hw2⟩
        · exact absurd hw hn
        · have hms := ax_ms_ok R5 (ax_match_me R5 R2 hm) hw1 hw2 ht2
          have e : ax_mu ρ' t.2.2.1 t.2.2.2.1 = ax_mu ρ t.2.2.1 t.2.2.2.1 := by
            unfold ax_mu
            rw [q1 _ (hfz.2 hn)]
          rw [e] at hms
          exact hms
    · rw [x1, show Nat.beq 1 0 = false from rfl, cond_false] at he
      obtain ⟨po, hpo, hz⟩ := List.any_eq_true.mp he
      cases hm : ax_match w x.2.2.2.2 n0 po x.2.2.2.1 with
      | none => rw [hm] at hz; cases hz
      | some m =>
        rw [hv] at hm
        obtain ⟨m1, m2, m3⟩ := ax_match_ok (xs := [o.1]) hE' (by show [ax_ev x.2.2.2.2.1 ρ' v] = [some o.1]; rw [hev]) hm
        obtain ⟨rv, hrv⟩ := hps po hpo
        rw [hrv] at m1
        have m1 := (List.cons.injEq _ _ _ _).mp m1
        refine ⟨po, hpo, ax_rm n0 m x.2.2.2.2.1 ρ', rv, fun k hk => (ax_rm_lt hk).trans ((q1 k (Nat.lt_of_lt_of_le hk hn0)).trans (hρ0 k hk)), hrv, m1.1, ?_, ?_, ?_, ?_⟩
        · rw [ho]; exact m2
        · rw [ho]; exact hT'
        · rw [ho]; exact q3
        · rw [ho]
end AXL
end
section
section AXC
variable {w : ax_W} {X : ax_X} {md : List (Nat × Nat)} {hp0 : rx_H} {P : List rx_M} {K : rx_K} {AP : List ax_M} {l : Launch} {cy : Nat → ClassId} {D : va_G} {r : rx_M} {B : Nat} {Po : rx_O → Prop} {ρ0 : Nat → Nat} {n0 : Nat}
noncomputable def ax_good (w : ax_W) (X : ax_X) (md : List (Nat × Nat)) (hp0 : rx_H) (P : List rx_M) (K : rx_K) (r : rx_M) (Po : rx_O → Prop) (f : Nat) (ρ : Nat → Nat) (t : ax_G) : Prop := ax_wf t ∧ ax_fz f t ∧ ax_TV w X md hp0 P K r Po ρ t
theorem ax_good.up {f f' : Nat} {ρ ρ' : Nat → Nat} {t : ax_G} (h : ax_good w X md hp0 P K r Po f ρ t) (hf : f ≤ f') (ha : ∀ k, k < f → ρ' k = ρ k) : ax_good w X md hp0 P K r Po f' ρ' t :=
  ⟨h.1, ⟨Nat.le_trans h.2.1.1 hf, fun hn => Nat.lt_of_lt_of_le (h.2.1.2 hn) hf⟩, h.2.2.ag h.2.1 ha⟩
/-- LOOPS END -/
theorem ax_ck_ok {blk : List ax_G → ax_A → Bool} (HB : ∀ (tg : List ax_G) (a : ax_A), blk tg a = true → ∀ (ρ : Nat → Nat) (hp : rx_H) (σ : rx_S), ax_R w X ρ a hp σ → ax_HR w md hp0 hp → n0 ≤ a.2.2.2.1 → (∀ k, k < n0 → ρ k = ρ0 k) → (∀ t ∈ tg, ax_good w X md hp0 P K r Po a.2.2.2.1 ρ t) → ax_Wp P K r σ Po) :
    ∀ (d f : Nat) (tg : List ax_G) (tr : ax_Tr d) (tl : List ax_G), ax_ck blk d f tg tr = some tl → n0 ≤ f → ∀ ρ : Nat → Nat, (∀ k, k < n0 → ρ k = ρ0 k) → (∀ t ∈ tg, ax_good w X md hp0 P K r Po f ρ t) → ∀ t ∈ tl, ax_good w X md hp0 P K r Po f ρ t
  | 0, f, tg, tr, tl, h, _, ρ, _, _ => by
    replace h : some [] = some tl := h
    cases h
    intro t ht
    cases ht
  | d + 1, f, tg, tr, tl, h, hn0, ρ, hρ, htg => by
    have gen : ∀ (tr : List ((Nat × Nat × Nat × ax_T) × ax_Tr d)) (tl : List ax_G), ax_ckL blk (ax_ck blk d) f tg tr = some tl → ∀ t ∈ tl, ax_good w X md hp0 P K r Po f ρ t := by
      intro tr
      induction tr with
      | nil =>
        intro tl h
        replace h : some [] = some tl := h
        cases h
        intro t ht
        cases ht
      | cons hd rest ihl =>
        intro tl h
        obtain ⟨⟨pc, fl, kk, T⟩, sub⟩ := hd
        replace h : ax_ckS blk (ax_ck blk d) f tg ((pc, fl, kk, T), sub) (ax_ckL blk (ax_ck blk d) f tg rest) = some tl := h
        generalize ax_ckL blk (ax_ck blk d) f tg rest = later at h ihl
        cases later with
        | none => cases h
        | some tl' =>
          have gtl := ihl tl' rfl
          replace h : (match ax_ck blk d T.2.1 ((bif Nat.beq fl 0 then [] else [(pc, f, fl, kk, T)]) ++ (tl' ++ tg)) sub with
            | some inner => bif Nat.ble f T.2.1 && (((Nat.beq fl 0 || Nat.ble f kk) && (Nat.ble fl 3 && Nat.blt kk T.2.1)) && blk (inner ++ ((bif Nat.beq fl 0 then [] else [(pc, f, fl, kk, T)]) ++ (tl' ++ tg))) (pc, T.1, [], T.2)) then some ((pc, f, 0, 0, T) :: tl') else none
            | none => none) = some tl := h
          cases hin : ax_ck blk d T.2.1 ((bif Nat.beq fl 0 then [] else [(pc, f, fl, kk, T)]) ++ (tl' ++ tg)) sub with
          | none => rw [hin] at h; cases h
          | some inner =>
            rw [hin] at h
            dsimp only at h
            obtain ⟨hc, h⟩ := rx_cond h
            have h := Option.some.inj h
            subst h
            obtain ⟨c1, hc⟩ := rx_and2.mp hc
            obtain ⟨c2, c3⟩ := rx_and2.mp hc
            obtain ⟨c4, c5⟩ := rx_and2.mp c2
            obtain ⟨c5, c6⟩ := rx_and2.mp c5
            have c1 : f ≤ T.2.1 := rx_ble.mp c1
            have c5 : fl ≤ 3 := rx_ble.mp c5
            have c6 : kk < T.2.1 := rx_blt.mp c6
            have claim : ∀ (N : Nat) (ρ' : Nat → Nat) (hp' : rx_H) (σ' : rx_S), (∀ k, k < f → ρ' k = ρ k) → ax_R w X ρ' (pc, T.1, [], T.2) hp' σ' → ax_HR w md hp0 hp' → ax_mu ρ' fl kk < N → ax_Wp P K r σ' Po := by
              intro N
              induction N with
              | zero => intro ρ' hp' σ' _ _ _ hm; exact absurd hm (Nat.not_lt_zero _)
              | succ N ihN =>
                intro ρ' hp' σ' ha hR hH hm
                have hρ' : ∀ k, k < n0 → ρ' k = ρ0 k := fun k hk => (ha k (Nat.lt_of_lt_of_le hk hn0)).trans (hρ k hk)
                have base : ∀ t ∈ (bif Nat.beq fl 0 then [] else [((pc, f, fl, kk, T) : ax_G)]) ++ (tl' ++ tg), ax_good w X md hp0 P K r Po T.2.1 ρ' t := by
                  intro t ht
                  rcases List.mem_append.mp ht with ht | ht
                  · cases hf0 : Nat.beq fl 0 with
                    | true => rw [hf0] at ht; cases ht
                    | false =>
                      rw [hf0, cond_false] at ht
                      cases List.mem_singleton.mp ht
                      have hne : fl ≠ 0 := fun z => by rw [z] at hf0; cases hf0
                      have hfk : f ≤ kk := by
                        rw [hf0, Bool.false_or] at c4
                        exact rx_ble.mp c4
                      refine ⟨Or.inr ⟨by show fl = 1 ∨ fl = 2 ∨ fl = 3; omega, hfk⟩, ⟨c1, fun _ => c6⟩, ?_⟩
                      intro ρ2 hp2 σ2 h1 h2 h3 h4
                      have h4 : ax_mu ρ2 fl kk < ax_mu ρ' fl kk := h4 hne
                      exact ihN ρ2 hp2 σ2 (fun k hk => (h1 k hk).trans (ha k hk)) h2 h3 (by omega)
                  · rcases List.mem_append.mp ht with ht | ht
                    · exact (gtl t ht).up c1 ha
                    · exact (htg t ht).up c1 ha
                refine HB _ _ c3 ρ' hp' σ' hR hH (Nat.le_trans hn0 c1) hρ' (fun t ht => ?_)
                rcases List.mem_append.mp ht with ht | ht
                · exact ax_ck_ok HB d T.2.1 _ sub inner hin (Nat.le_trans hn0 c1) ρ' hρ' base t ht
                · exact base t ht
            intro t ht
            rcases List.mem_cons.mp ht with rfl | ht
            · exact ⟨Or.inl rfl, ⟨Nat.le_refl _, fun hn => absurd rfl hn⟩, fun ρ' hp' σ' h1 h2 h3 _ => claim _ ρ' hp' σ' h1 h2 h3 (Nat.lt_succ_self _)⟩
            · exact gtl t ht
    exact gen tr tl h
/-- A CONTRACT THAT IS CHECKED HOLDS -/
theorem ax_chk_ok (hP : ∀ q ∈ P, rx_QW q ∧ rx_ST P K q) (hX : ax_XD w X) (hr : r ∈ P) (hA : ax_Low w X P AP P K (rx_rf (rx_n r))) {cd : List (List ax_I)} (htab : ax_tab r cd) {C : ax_C} {rl : List ax_RL} (hrl : ∀ x ∈ rl, ax_RO w X x) {sp : List Nat} {n d : Nat} {tr : ax_Tr d} (h : ax_chk w P K AP (rx_n r) cd C rl sp n d tr = true) : ax_Con w X P K r C := by
  unfold ax_chk at h
  cases hck : ax_ck (ax_blk w P K AP C.2.1 (rx_n r) cd (ax_n C.1.2) C.2.2 rl sp n) d (ax_n C.1.2) [] tr with
  | none => rw [hck] at h; cases h
  | some tl =>
    rw [hck] at h
    obtain ⟨h1, h2⟩ := rx_and2.mp h
    have hps : ∀ po ∈ C.2.2, ∃ v, po.1 = [v] := by
      intro po hpo
      have := List.all_eq_true.mp h2 po hpo
      match hp1 : po.1, this with
      | [], this => cases this
      | [v], _ => exact ⟨v, rfl⟩
      | _ :: _ :: _, this => cases this
    intro ρ hp as has hE hT
    have HB : ∀ (tg : List ax_G) (a : ax_A), ax_blk w P K AP C.2.1 (rx_n r) cd (ax_n C.1.2) C.2.2 rl sp n tg a = true → ∀ (ρ' : Nat → Nat) (hp' : rx_H) (σ : rx_S), ax_R w X ρ' a hp' σ → ax_HR w C.2.1 hp hp' → ax_n C.1.2 ≤ a.2.2.2.1 → (∀ k, k < ax_n C.1.2 → ρ' k = ρ k) → (∀ t ∈ tg, ax_good w X C.2.1 hp P K r (ax_PO w X C.2.1 hp (ax_n C.1.2) C.2.2 ρ) a.2.2.2.1 ρ' t) → ax_Wp P K r σ (ax_PO w X C.2.1 hp (ax_n C.1.2) C.2.2 ρ) := by
      intro tg a hb ρ' hp' σ hR hH hn hρ htg
      exact ax_blk_ok hP hX hA hr (Nat.le_refl _) htab hrl hb hps hR hH hn hρ (fun t ht => ⟨(htg t ht).1, (htg t ht).2.1.1, (htg t ht).2.1, (htg t ht).2.2⟩)
    have gtl := ax_ck_ok (n0 := ax_n C.1.2) (ρ0 := ρ) HB d (ax_n C.1.2) [] tr tl hck (Nat.le_refl _) ρ (fun _ _ => rfl) (fun t ht => by cases ht)
    exact HB tl _ h1 ρ hp _ ⟨rfl, ax_args_ok hE has, rfl, rfl, hE, hT⟩ ax_HR.rf (Nat.le_refl _) (fun _ _ => rfl) gtl
end AXC
end
section
/-- lists of numbers are the same -/
noncomputable def ax_eqL (xs : List Nat) : List Nat → Bool := List.rec (motive := fun _ => List Nat → Bool) (fun ys => match ys with
  | [] => true
  | _ :: _ => false) (fun x _ ih ys => match ys with
  | [] => false
  | y :: t => Nat.beq x y && ih t) xs
theorem ax_eqL_ok : ∀ {xs ys : List Nat}, ax_eqL xs ys = true → xs = ys
  | [], [], _ => rfl
  | [], _ :: _, h => by cases h
  | _ :: _, [], h => by cases h
  | x :: xs, y :: ys, h => by
    replace h : (Nat.beq x y && ax_eqL xs ys) = true := h
    obtain ⟨h1, h2⟩ := rx_and2.mp h
    rw [rx_beq.mp h1, ax_eqL_ok h2]
noncomputable def ax_tabN (x : ax_I) (z : Nat × Nat × Nat × List Nat) : Bool := Nat.beq z.1 x.2.1 && (Nat.beq z.2.1 x.2.2.1 && (Nat.beq z.2.2.1 x.2.2.2.1 && (ax_eqL z.2.2.2 x.2.2.2.2.2.2 && !(Nat.beq x.2.1 21 && ax_eqL x.2.2.2.2.2.2 []))))
noncomputable def ax_tabY (x : ax_I) (y : rx_E) : Bool := bif Nat.ble x.2.1 25 then (match ax_num x.1 y.2.2.2.1 with
    | some z => ax_tabN x z
    | none => false)
  else (match ax_ctl y.2.2.2.1 with
    | some k => Nat.beq k x.2.1
    | none => false)
noncomputable def ax_tabI (cd : List (List rx_E)) (x : ax_I) : Bool := match rx_look cd x.1 with
  | none => false
  | some y => Nat.beq y.2.2.2.2.2.1 x.2.2.2.2.1 && (Nat.beq y.2.2.2.2.2.2.1 x.2.2.2.2.2.1 && ax_tabY x y)
noncomputable def ax_tabB (cd0 : List (List rx_E)) (cd : List (List ax_I)) : Bool := cd.all (fun ch => ch.all (ax_tabI cd0))
theorem ax_tabN_ok {x : ax_I} {z : Nat × Nat × Nat × List Nat} (h : ax_tabN x z = true) : z = (x.2.1, x.2.2.1, x.2.2.2.1, x.2.2.2.2.2.2) ∧ (x.2.1 = 21 → x.2.2.2.2.2.2 ≠ []) := by
  obtain ⟨a, b, c, d⟩ := z
  obtain ⟨h1, h⟩ := rx_and2.mp h
  obtain ⟨h2, h⟩ := rx_and2.mp h
  obtain ⟨h3, h⟩ := rx_and2.mp h
  obtain ⟨h4, h⟩ := rx_and2.mp h
  have e1 : a = x.2.1 := rx_beq.mp h1
  have e2 : b = x.2.2.1 := rx_beq.mp h2
  have e3 : c = x.2.2.2.1 := rx_beq.mp h3
  have e4 : d = x.2.2.2.2.2.2 := ax_eqL_ok h4
  refine ⟨by rw [e1, e2, e3, e4], fun hk hn => ?_⟩
  rw [hk, hn] at h
  cases h
theorem ax_tabY_ok {x : ax_I} {y : rx_E} (h : ax_tabY x y = true) : (x.2.1 ≤ 25 ∧ ax_num x.1 y.2.2.2.1 = some (x.2.1, x.2.2.1, x.2.2.2.1, x.2.2.2.2.2.2) ∧ (x.2.1 = 21 → x.2.2.2.2.2.2 ≠ [])) ∨ (25 < x.2.1 ∧ ax_ctl y.2.2.2.1 = some x.2.1) := by
  unfold ax_tabY at h
  cases hc : Nat.ble x.2.1 25 with
  | true =>
    rw [hc] at h
    replace h : (match ax_num x.1 y.2.2.2.1 with
      | some z => ax_tabN x z
      | none => false) = true := h
    cases hz : ax_num x.1 y.2.2.2.1 with
    | none => rw [hz] at h; cases h
    | some z =>
      rw [hz] at h
      obtain ⟨e, h2⟩ := ax_tabN_ok (x := x) (z := z) h
      exact Or.inl ⟨rx_ble.mp hc, by rw [e], h2⟩
  | false =>
    rw [hc] at h
    replace h : (match ax_ctl y.2.2.2.1 with
      | some k => Nat.beq k x.2.1
      | none => false) = true := h
    have hl : 25 < x.2.1 := by
      rcases Nat.lt_or_ge 25 x.2.1 with h0 | h0
      · exact h0
      · rw [rx_ble.mpr h0] at hc; cases hc
    cases hz : ax_ctl y.2.2.2.1 with
    | none => rw [hz] at h; cases h
    | some k =>
      rw [hz] at h
      have e : k = x.2.1 := rx_beq.mp h
      exact Or.inr ⟨hl, by rw [e]⟩
theorem ax_tabB_ok {r : rx_M} {cd : List (List ax_I)} (h : ax_tabB (rx_cd r) cd = true) : ax_tab r cd := by
  intro ch hch x hx
  have h1 := List.all_eq_true.mp (List.all_eq_true.mp h ch hch) x hx
  unfold ax_tabI at h1
  cases hy : rx_look (rx_cd r) x.1 with
  | none => rw [hy] at h1; cases h1
  | some y =>
    rw [hy] at h1
    obtain ⟨e1, h1⟩ := rx_and2.mp h1
    obtain ⟨e2, h1⟩ := rx_and2.mp h1
    exact ⟨y, rfl, rx_beq.mp e1, rx_beq.mp e2, ax_tabY_ok h1⟩
section AXZ
variable {w : ax_W} {X : ax_X} {P P' : List rx_M} {AP AP' : List ax_M} {K : rx_K}
/-- a method's row: its code is right, and its contracts hold where those of methods with fewer frames do -/
noncomputable def ax_Row (w : ax_W) (X : ax_X) (P : List rx_M) (AP : List ax_M) (P : List rx_M) (K : rx_K) (q : rx_M) (m : ax_M) : Prop := q ∈ P → ax_tab q m.1 ∧ (ax_Low w X P AP P K (rx_rf (rx_n q)) → ∀ C ∈ m.2, ax_Con w X P K q C)
noncomputable def ax_Rows (w : ax_W) (X : ax_X) (P : List rx_M) (AP : List ax_M) (P : List rx_M) (K : rx_K) (P' : List rx_M) (AP' : List ax_M) : Prop := ∀ (j : Nat) (q : rx_M) (m : ax_M), rx_nth P' j = some q → rx_nth AP' j = some m → ax_Row w X P AP P K q m
theorem ax_rows_nil : ax_Rows w X P AP P K [] [] := by
  intro j q m h
  cases h
theorem ax_rows_cons {q0 : rx_M} {m0 : ax_M} (h0 : ax_Row w X P AP P K q0 m0) (h : ax_Rows w X P AP P K P' AP') : ax_Rows w X P AP P K (q0 :: P') (m0 :: AP') := by
  intro j q m h1 h2
  cases j with
  | zero => cases h1; cases h2; exact h0
  | succ j => exact h j q m h1 h2
theorem ax_nth_mem : ∀ {α : Type} {xs : List α} {j : Nat} {x : α}, rx_nth xs j = some x → x ∈ xs
  | _, [], _, _, h => by cases h
  | _, y :: ys, 0, _, h => by cases h; exact List.mem_cons_self
  | _, y :: ys, j + 1, _, h => List.mem_cons_of_mem _ (ax_nth_mem (xs := ys) (j := j) h)
/-- ALL CONTRACTS HOLD -/
theorem ax_all (H : ax_Rows w X P AP P K P AP) : ∀ B, ax_Low w X P AP P K B
  | 0 => fun j q m h1 h2 => ⟨(H j q m h1 h2 (ax_nth_mem h1)).1, fun h => absurd h (Nat.not_lt_zero _)⟩
  | B + 1 => fun j q m h1 h2 => ⟨(H j q m h1 h2 (ax_nth_mem h1)).1, fun hb => (H j q m h1 h2 (ax_nth_mem h1)).2 (fun j' q' m' h1' h2' => ⟨(ax_all H B j' q' m' h1' h2').1, fun hb' => (ax_all H B j' q' m' h1' h2').2 (Nat.lt_of_lt_of_le hb' (Nat.le_of_lt_succ hb))⟩)⟩
theorem ax_con_nil {q : rx_M} : ∀ C ∈ ([] : List ax_C), ax_Con w X P K q C := by
  intro C h
  cases h
theorem ax_con_cons {q : rx_M} {C0 : ax_C} {Cs : List ax_C} (h0 : ax_Con w X P K q C0) (h : ∀ C ∈ Cs, ax_Con w X P K q C) : ∀ C ∈ C0 :: Cs, ax_Con w X P K q C := by
  intro C hC
  rcases List.mem_cons.mp hC with e | e
  · rw [e]; exact h0
  · exact h C e
end AXZ
end
section
section AXP
variable {w : ax_W} {X : ax_X} {P : List rx_M} {K : rx_K} {q : rx_M} {vs : List Nat} {md : List (Nat × Nat)} {ps ps' : List ax_T}
/-- a contract holds if at every state one with more known does -/
theorem ax_con_ext {E : ax_E} (H : ∀ (ρ : Nat → Nat) (hp : rx_H), ax_EO w X ρ E hp → ax_HT w hp → ∃ (E1 : ax_E) (ρ1 : Nat → Nat), E.1 ≤ E1.1 ∧ (∀ k, k < E.1 → ρ1 k = ρ k) ∧ ax_EO w X ρ1 E1 hp ∧ ax_Con w X P K q ((vs, E1), md, ps)) : ax_Con w X P K q ((vs, E), md, ps) := by
  intro ρ hp as has hE hT
  obtain ⟨E1, ρ1, hn, ha, hE1, hC⟩ := H ρ hp hE hT
  obtain ⟨o, h1, po, hpo, ρ', r, hk, h2⟩ := hC ρ1 hp as (ax_evs_mono hn ha has) hE1 hT
  exact ⟨o, h1, po, hpo, ρ', r, fun k hk' => (hk k (Nat.lt_of_lt_of_le hk' hn)).trans (ha k hk'), h2⟩
/-- what is promised may be less -/
theorem ax_con_post {T : ax_T} (H : ∀ po ∈ ps, ∃ po' ∈ ps', po'.1 = po.1 ∧ po'.2.1 = po.2.1 ∧ ∀ (ρ : Nat → Nat) (hp : rx_H), ax_EO w X ρ po.2 hp → ax_EO w X ρ po'.2 hp) (h : ax_Con w X P K q (T, md, ps)) : ax_Con w X P K q (T, md, ps') := by
  intro ρ hp as has hE hT
  obtain ⟨o, h1, po, hpo, ρ', r, hk, h2, h3, h4, h5⟩ := h ρ hp as has hE hT
  obtain ⟨po', hpo', e1, e2, e3⟩ := H po hpo
  exact ⟨o, h1, po', hpo', ρ', r, hk, e1.trans h2, by rw [e2]; exact h3, e3 ρ' _ h4, h5⟩
/-- the newest symbol's number, one by one -/
theorem ax_con_iv {n lo hi : Nat} {ty : List ax_Y} {e : List (Nat × Nat × Nat) × List (Nat × Nat × Nat) × List ax_N} (H : ∀ c, lo ≤ c → c ≤ hi → ax_Con w X P K q ((vs, (n + 1, (0, c, c) :: ty, e)), md, ps)) : ax_Con w X P K q ((vs, (n + 1, (0, lo, hi) :: ty, e)), md, ps) := by
  refine ax_con_ext ?_
  intro ρ hp hE hT
  obtain ⟨g1, g2, g3⟩ := hE
  have hz : n + 1 - 1 - n = 0 := by omega
  have h0 := g2 n (0, lo, hi) (Nat.lt_succ_self n) (by show ((0, lo, hi) :: ty)[n + 1 - 1 - n]? = some (0, lo, hi); rw [hz]; rfl)
  rcases h0 with ⟨_, b1, b2, b3, b4⟩ | ⟨b, _⟩ | ⟨b, _⟩ | ⟨b, _⟩
  · obtain ⟨c, hc⟩ : ∃ c, rx_bi (ρ n / 4) = c := ⟨_, rfl⟩
    replace b3 : lo ≤ rx_bi (ρ n / 4) := b3
    replace b4 : rx_bi (ρ n / 4) ≤ hi := b4
    rw [hc] at b3 b4
    refine ⟨(n + 1, (0, c, c) :: ty, e), ρ, Nat.le_refl _, fun _ _ => rfl, ⟨g1, ?_, g3⟩, H c b3 b4⟩
    intro k t hk ht
    rcases Nat.lt_or_ge k n with hlt | hge
    · refine g2 k t hk ?_
      have hs : ∃ m, n + 1 - 1 - k = m + 1 := ⟨n - k - 1, by omega⟩
      obtain ⟨m, hm⟩ := hs
      replace ht : ((0, c, c) :: ty)[n + 1 - 1 - k]? = some t := ht
      show ((0, lo, hi) :: ty)[n + 1 - 1 - k]? = some t
      rw [hm] at ht ⊢
      exact ht
    · have hkn : k = n := Nat.le_antisymm (Nat.le_of_lt_succ hk) hge
      rw [hkn] at ht ⊢
      replace ht : ((0, c, c) :: ty)[n + 1 - 1 - n]? = some t := ht
      rw [hz] at ht
      cases ht
      exact Or.inl ⟨rfl, b1, b2, Nat.le_of_eq hc.symm, Nat.le_of_eq hc⟩
  · cases b
  · cases b
  · cases b
/-- a field's number gets a symbol -/
theorem ax_con_rd {E : ax_E} {a g i k m lo hi : Nat} {tl : List (Nat × ax_Y)} (ha : ∀ (ρ : Nat → Nat) (hp : rx_H), ax_EO w X ρ E hp → ∃ av, ax_ev E.1 ρ a = some av ∧ av % 4 = 2 ∧ 2 ≤ av / 4 ∧ w.1[av / 4 - 2]? = some g) (hg : w.2.1[g]? = some (k, m, tl)) (hi' : i < m) (ht : ax_at tl i = some (0, lo, hi)) (H : ax_Con w X P K q ((vs, ax_addF (ax_new E (0, lo, hi)) (a, 4 * i, ax_sym (ax_n E))), md, ps)) : ax_Con w X P K q ((vs, E), md, ps) := by
  refine ax_con_ext ?_
  intro ρ hp hE hT
  obtain ⟨av, a1, a2, a3, a4⟩ := ha ρ hp hE
  obtain ⟨k', n', tl', f, b1, b2, b3, b4⟩ := hT.2 _ _ a4
  rw [hg] at b1
  cases b1
  have hv : ∃ v, f[i]? = some v := ⟨_, List.getElem?_eq_getElem (by rw [b3]; exact hi')⟩
  obtain ⟨v, hv⟩ := hv
  obtain ⟨t, c1, c2⟩ := b4 i v hv
  rw [ht] at c1
  cases c1
  obtain ⟨ρ', d1, d2, d3⟩ := ax_new_ok hE c2
  have hm4 : 4 * i / 4 = i := by omega
  refine ⟨ax_addF (ax_new E (0, lo, hi)) (a, 4 * i, ax_sym (ax_n E)), ρ', Nat.le_succ _, d1, ⟨d2.1, d2.2.1, ?_, d2.2.2.2⟩, H⟩
  intro x hx
  rcases List.mem_cons.mp hx with e | e
  · rw [e]
    exact ⟨av, 4 * i, v, _, _, f, ax_ev_mono (Nat.le_succ _) d1 a1, ax_ev_c (v := 4 * i) (by omega), d3, a2, a3, by omega, b2, by rw [hm4]; exact hv⟩
  · exact d2.2.2.1 x e
end AXP
end
section
/-- two numbers of one cell come to no more than a bound (both as told from the least int on) -/
noncomputable def ax_X2 (qH iD iU b : Nat) (hp : rx_H) : Prop := ∃ (k n d u : Nat) (f : List Nat), rx_hg hp qH = some (k, n, f) ∧ f[iD]? = some (4 * d) ∧ f[iU]? = some (4 * u) ∧ rx_bi d + rx_bi u ≤ b
theorem ax_mem_no {md : List (Nat × Nat)} {g i : Nat} (h : (!(md.any (fun y => Nat.beq y.1 g && (Nat.beq y.2 i || (Nat.beq y.2 999 || Nat.beq i 999))))) = true) : ax_mem md g i = false := by
  cases hm : ax_mem md g i with
  | false => rfl
  | true =>
    exfalso
    obtain ⟨y, hy, hb⟩ := List.any_eq_true.mp hm
    have h1 : md.any (fun y => Nat.beq y.1 g && (Nat.beq y.2 i || (Nat.beq y.2 999 || Nat.beq i 999))) = true := by
      refine List.any_eq_true.mpr ⟨y, hy, ?_⟩
      obtain ⟨h2, h3⟩ := rx_and2.mp hb
      refine rx_and2.mpr ⟨h2, ?_⟩
      cases e1 : Nat.beq y.2 i with
      | true => rfl
      | false =>
        rw [e1] at h3
        replace h3 : Nat.beq y.2 999 = true := h3
        rw [h3]
        rfl
    rw [h1] at h
    cases h
theorem ax_XD_two {w : ax_W} {g qH iD iU b : Nat} (hq : w.1[qH]? = some g) (hd : w.2.2 = [[(g, iD), (g, iU)]]) : ax_XD w (fun x _ hp => x = 0 → ax_X2 qH iD iU b hp) := by
  intro x vs dl md hp hp' hdl hall hR hX h0
  rw [hd, h0] at hdl
  cases hdl
  obtain ⟨k, n, d, u, f, e1, e2, e3, e4⟩ := hX h0
  obtain ⟨f', e5, e6⟩ := hR.2 qH g hq k n f e1
  have hD := ax_mem_no (List.all_eq_true.mp hall (g, iD) List.mem_cons_self)
  have hU := ax_mem_no (List.all_eq_true.mp hall (g, iU) (List.mem_cons_of_mem _ List.mem_cons_self))
  exact ⟨k, n, d, u, f', e5, (e6 iD hD).trans e2, (e6 iU hU).trans e3, e4⟩
end
section
section AXQ
variable {w : ax_W} {X : ax_X} {P : List rx_M} {K : rx_K} {q : rx_M} {vs : List Nat} {md : List (Nat × Nat)} {ps : List ax_T}
theorem ax_ok_bi {lo hi v : Nat} (h : ax_ok w (0, lo, hi) v) : ∃ c, rx_bi (v / 4) = c ∧ lo ≤ c ∧ c ≤ hi ∧ ax_ok w (0, c, c) v := by
  rcases h with ⟨_, b1, b2, b3, b4⟩ | ⟨b, _⟩ | ⟨b, _⟩ | ⟨b, _⟩
  · obtain ⟨c, hc⟩ : ∃ c, rx_bi (v / 4) = c := ⟨_, rfl⟩
    replace b3 : lo ≤ rx_bi (v / 4) := b3
    replace b4 : rx_bi (v / 4) ≤ hi := b4
    rw [hc] at b3 b4
    exact ⟨c, hc, b3, b4, Or.inl ⟨rfl, b1, b2, Nat.le_of_eq hc.symm, Nat.le_of_eq hc⟩⟩
  · cases b
  · cases b
  · cases b
/-- the two newest symbols' numbers, pair by pair, where the pairs keep a bound together -/
theorem ax_con_pair {n lo1 hi1 lo2 hi2 b : Nat} {ty : List ax_Y} {e : List (Nat × Nat × Nat) × List (Nat × Nat × Nat) × List ax_N} (HR : ∀ (ρ : Nat → Nat) (hp : rx_H), ax_EO w X ρ (n + 2, (0, lo2, hi2) :: (0, lo1, hi1) :: ty, e) hp → rx_bi (ρ n / 4) + rx_bi (ρ (n + 1) / 4) ≤ b) (H : ∀ c d, lo1 ≤ c → c ≤ hi1 → lo2 ≤ d → d ≤ hi2 → c + d ≤ b → ax_Con w X P K q ((vs, (n + 2, (0, d, d) :: (0, c, c) :: ty, e)), md, ps)) : ax_Con w X P K q ((vs, (n + 2, (0, lo2, hi2) :: (0, lo1, hi1) :: ty, e)), md, ps) := by
  refine ax_con_ext ?_
  intro ρ hp hE hT
  have hs := HR ρ hp hE
  obtain ⟨g1, g2, g3⟩ := hE
  have z0 : n + 2 - 1 - (n + 1) = 0 := by omega
  have z1 : n + 2 - 1 - n = 1 := by omega
  have h1 := g2 (n + 1) (0, lo2, hi2) (Nat.lt_succ_self _) (by show ((0, lo2, hi2) :: (0, lo1, hi1) :: ty)[n + 2 - 1 - (n + 1)]? = some (0, lo2, hi2); rw [z0]; rfl)
  have h0 := g2 n (0, lo1, hi1) (by show n < n + 2; omega) (by show ((0, lo2, hi2) :: (0, lo1, hi1) :: ty)[n + 2 - 1 - n]? = some (0, lo1, hi1); rw [z1]; rfl)
  obtain ⟨c, c1, c2, c3, c4⟩ := ax_ok_bi h0
  obtain ⟨d, d1, d2, d3, d4⟩ := ax_ok_bi h1
  rw [c1, d1] at hs
  refine ⟨(n + 2, (0, d, d) :: (0, c, c) :: ty, e), ρ, Nat.le_refl _, fun _ _ => rfl, ⟨g1, ?_, g3⟩, H c d c2 c3 d2 d3 hs⟩
  intro k t hk ht
  replace hk : k < n + 2 := hk
  replace ht : ((0, d, d) :: (0, c, c) :: ty)[n + 2 - 1 - k]? = some t := ht
  rcases Nat.lt_or_ge k n with hlt | hge
  · refine g2 k t hk ?_
    obtain ⟨m, hm⟩ : ∃ m, n + 2 - 1 - k = m + 2 := ⟨n - k - 1, by omega⟩
    show ((0, lo2, hi2) :: (0, lo1, hi1) :: ty)[n + 2 - 1 - k]? = some t
    rw [hm] at ht ⊢
    exact ht
  · rcases Nat.lt_or_ge n k with hl2 | hl2
    · have hkn : k = n + 1 := by omega
      rw [hkn, z0] at ht
      rw [hkn]
      cases ht
      exact d4
    · have hkn : k = n := by omega
      rw [hkn, z1] at ht
      rw [hkn]
      cases ht
      exact c4
end AXQ
end
section
theorem ax_ev_sy {n k v : Nat} {ρ : Nat → Nat} (h : ax_ev n ρ (4 * k + 3) = some v) : ρ k = v := by
  unfold ax_ev at h
  have e1 : (4 * k + 3) % 4 = 3 := by omega
  have e2 : (4 * k + 3) / 4 = k := by omega
  rw [if_pos e1, e2] at h
  by_cases hk : k < n
  · rw [if_pos hk] at h; exact Option.some.inj h
  · rw [if_neg hk] at h; cases h
theorem ax_ev_cc {n a v : Nat} {ρ : Nat → Nat} (ha : a % 4 ≠ 3) (h : ax_ev n ρ a = some v) : v = a := by
  rw [ax_ev_c ha] at h
  exact (Option.some.inj h).symm
theorem ax_FO_c {n qH i k : Nat} {ρ : Nat → Nat} {hp : rx_H} (h : ax_FO n ρ hp (4 * (qH + 2) + 2, 4 * i, 4 * k + 3)) : ∃ (kk m : Nat) (f : List Nat), rx_hg hp qH = some (kk, m, f) ∧ f[i]? = some (ρ k) := by
  obtain ⟨a, j, v, kk, m, f, h1, h2, h3, _, _, _, h7, h8⟩ := h
  have e1 := ax_ev_cc (a := 4 * (qH + 2) + 2) (by omega) h1
  have e2 := ax_ev_cc (a := 4 * i) (by omega) h2
  have e3 := ax_ev_sy (k := k) h3
  have e4 : a / 4 - 2 = qH := by omega
  have e5 : j / 4 = i := by omega
  rw [e4] at h7
  rw [e5, ← e3] at h8
  exact ⟨kk, m, f, h7, h8⟩
/-- the named fact over two numbers, told of the symbols that stand for them -/
theorem ax_two_sum {w : ax_W} {X : ax_X} {E : ax_E} {qH iD iU b n n' : Nat} (hX : ∀ vs hp, X 0 vs hp → ax_X2 qH iD iU b hp) (hx : (0, []) ∈ E.2.2.2.2) (f1 : (4 * (qH + 2) + 2, 4 * iD, 4 * n + 3) ∈ E.2.2.1) (f2 : (4 * (qH + 2) + 2, 4 * iU, 4 * n' + 3) ∈ E.2.2.1) (ρ : Nat → Nat) (hp : rx_H) (hE : ax_EO w X ρ E hp) : rx_bi (ρ n / 4) + rx_bi (ρ n' / 4) ≤ b := by
  obtain ⟨vs, v1, v2⟩ := hE.2.2.2.2 _ hx
  unfold ax_XF at v2
  rw [if_pos (by decide)] at v2
  obtain ⟨k, m, d, u, f, e1, e2, e3, e4⟩ := hX vs hp v2
  obtain ⟨k1, m1, l1, a1, a2⟩ := ax_FO_c (hE.2.2.1 _ f1)
  obtain ⟨k2, m2, l2, b1, b2⟩ := ax_FO_c (hE.2.2.1 _ f2)
  rw [e1] at a1 b1
  cases a1
  cases b1
  rw [e2] at a2
  rw [e3] at b2
  rw [← Option.some.inj a2, ← Option.some.inj b2, Nat.mul_div_cancel_left d (by decide), Nat.mul_div_cancel_left u (by decide)]
  exact e4
end
section
/-! How rules are proved -/
noncomputable def ax_vl (ρ : Nat → Nat) (v : Nat) : Nat := if v % 4 = 3 then ρ (v / 4) else v
theorem ax_vl_ev {n : Nat} {ρ : Nat → Nat} {v x : Nat} (h : ax_ev n ρ v = some x) : x = ax_vl ρ v := by
  unfold ax_ev at h
  unfold ax_vl
  by_cases h3 : v % 4 = 3
  · rw [if_pos h3] at h ⊢
    by_cases hl : v / 4 < n
    · rw [if_pos hl] at h; exact (Option.some.inj h).symm
    · rw [if_neg hl] at h; cases h
  · rw [if_neg h3] at h ⊢
    exact (Option.some.inj h).symm
theorem ax_vl_evs {n : Nat} {ρ : Nat → Nat} : ∀ {l vs : List Nat}, l.map (ax_ev n ρ) = vs.map some → vs = l.map (ax_vl ρ)
  | [], [], _ => rfl
  | [], _ :: _, h => by cases h
  | _ :: _, [], h => by cases h
  | v :: l, x :: vs, h => by
    obtain ⟨x', r, e, h1, h2⟩ := ax_evs_cons h
    cases e
    rw [List.map_cons, ax_vl_ev h1, ← ax_vl_evs h2]
theorem ax_ev_vl {n : Nat} {ρ : Nat → Nat} {v : Nat} (h : ax_sc n v = true) : ax_ev n ρ v = some (ax_vl ρ v) := by
  unfold ax_ev ax_vl
  by_cases h3 : v % 4 = 3
  · rw [if_pos h3, if_pos h3, if_pos (ax_sc_ok h _ h3 rfl)]
  · rw [if_neg h3, if_neg h3]
theorem ax_evs_vl {n : Nat} {ρ : Nat → Nat} : ∀ {l : List Nat}, l.all (ax_sc n) = true → l.map (ax_ev n ρ) = (l.map (ax_vl ρ)).map some
  | [], _ => rfl
  | v :: l, h => by
    replace h : (ax_sc n v && l.all (ax_sc n)) = true := h
    obtain ⟨h1, h2⟩ := rx_and2.mp h
    exact ax_evs_push (ax_ev_vl h1) (ax_evs_vl h2)
section AXG
variable {w : ax_W} {X : ax_X} {ρ : Nat → Nat} {E : ax_E} {hp : rx_H}
/-- a named fact of a pattern -/
theorem ax_gx (hE : ax_EO w X ρ E hp) (x : ax_N) (h : x ∈ E.2.2.2.2) : ax_XF X x.1 (x.2.map (ax_vl ρ)) hp := by
  obtain ⟨vs, h1, h2⟩ := hE.2.2.2.2 x h
  rw [← ax_vl_evs h1]
  exact h2
/-- a cell's content of a pattern -/
theorem ax_gf (hE : ax_EO w X ρ E hp) (f : Nat × Nat × Nat) (h : (1200, [f.1, f.2.1, f.2.2]) ∈ E.2.2.2.2) : ∃ (k m : Nat) (l : List Nat), rx_hg hp (ax_vl ρ f.1 / 4 - 2) = some (k, m, l) ∧ l[ax_vl ρ f.2.1 / 4]? = some (ax_vl ρ f.2.2) := by
  obtain ⟨-, -, -, h⟩ := ax_XF_cc.mp (ax_gx hE _ h)
  exact h
/-- an int of a pattern -/
theorem ax_gi (hE : ax_EO w X ρ E hp) (k lo hi : Nat) (hk : k < E.1) (h : E.2.1[E.1 - 1 - k]? = some (0, lo, hi)) : ∃ c, ρ k = 4 * c ∧ c < 4294967296 ∧ lo ≤ rx_bi c ∧ rx_bi c ≤ hi := by
  rcases hE.2.1 k _ hk h with ⟨_, b1, b2, b3, b4⟩ | ⟨b, _⟩ | ⟨b, _⟩ | ⟨b, _⟩
  · exact ⟨ρ k / 4, by omega, b2, b3, b4⟩
  · cases b
  · cases b
  · cases b
/-- a long of a pattern -/
theorem ax_gj (hE : ax_EO w X ρ E hp) (k : Nat) (hk : k < E.1) (h : E.2.1[E.1 - 1 - k]? = some (1, 0, 0)) : ∃ c, ρ k = 4 * c + 1 := by
  rcases hE.2.1 k _ hk h with ⟨b, _⟩ | ⟨_, b⟩ | ⟨b, _⟩ | ⟨b, _⟩
  · cases b
  · exact ⟨ρ k / 4, by omega⟩
  · cases b
  · cases b
/-- what is concluded, with no new symbol -/
theorem ax_px {n : Nat} {ty : List ax_Y} {e : List (Nat × Nat × Nat) × List (Nat × Nat × Nat) × List ax_N} {xf : List ax_N} (hE : ax_EO w X ρ (n, ty, e) hp) (hs : xf.all (fun x => x.2.all (ax_sc n)) = true) (h : ∀ x ∈ xf, ax_XF X x.1 (x.2.map (ax_vl ρ)) hp) : ax_EO w X ρ (n, ty, [], [], xf) hp := by
  refine ⟨hE.1, hE.2.1, fun f hf => (by cases hf), fun d hd => (by cases hd), fun x hx => ?_⟩
  exact ⟨x.2.map (ax_vl ρ), ax_evs_vl (List.all_eq_true.mp hs x hx), h x hx⟩
/-- .. with one new symbol, a number that is no machine's -/
theorem ax_pn {n K : Nat} {ty : List ax_Y} {e : List (Nat × Nat × Nat) × List (Nat × Nat × Nat) × List ax_N} {xf : List ax_N} (hE : ax_EO w X ρ (n, ty, e) hp) (hs : xf.all (fun x => x.2.all (ax_sc (n + 1))) = true) (h : ∀ ρ' : Nat → Nat, (∀ k, k < n → ρ' k = ρ k) → ρ' n = 4 * K + 1 → ∀ x ∈ xf, ax_XF X x.1 (x.2.map (ax_vl ρ')) hp) : ∃ ρ' : Nat → Nat, (∀ k, k < n → ρ' k = ρ k) ∧ ax_EO w X ρ' (n + 1, (1, 0, 0) :: ty, [], [], xf) hp := by
  obtain ⟨ρ', h1, h2, h3⟩ := ax_new_ok hE (t := (1, 0, 0)) (x := 4 * K + 1) (Or.inr (Or.inl ⟨rfl, by omega⟩))
  have hn : ρ' n = 4 * K + 1 := ax_ev_sy (n := n + 1) (k := n) h3
  refine ⟨ρ', h1, ⟨h2.1, h2.2.1, fun f hf => (by cases hf), fun d hd => (by cases hd), fun x hx => ?_⟩⟩
  exact ⟨x.2.map (ax_vl ρ'), ax_evs_vl (List.all_eq_true.mp hs x hx), h ρ' h1 hn x hx⟩
end AXG
theorem ax_bi_nat {c : Nat} (h : c < 2147483648) : rx_bi c = c + 2147483648 := by
  rw [ax_bi_def]
  omega
/-- an int that is not below 0 -/
theorem ax_bi_pos {c : Nat} (h : c < 4294967296) (h1 : 2147483648 ≤ rx_bi c) : c < 2147483648 ∧ rx_bi c = c + 2147483648 := by
  rw [ax_bi_def] at h1 ⊢
  omega
theorem ax_hg_upd {hp : rx_H} {a i v k n : Nat} {f : List Nat} (h : hp.1 ≤ 256) (hg : rx_hg hp (a / 4 - 2) = some (k, n, f)) (q : Nat) : rx_hg (ax_upd hp a i v) q = if q = a / 4 - 2 then some (k, n, f.set (i / 4) v) else rx_hg hp q := by
  unfold ax_upd
  rw [hg]
  exact rx_hg_hs h (rx_hg_lt hg)
/-- a sum that is exact -/
theorem ax_gs {w : ax_W} {X : ax_X} {ρ : Nat → Nat} {E : ax_E} {hp : rx_H} (hE : ax_EO w X ρ E hp) (p q r : Nat) (h : (1015, [p, q, r, 0]) ∈ E.2.2.2.2) : ∃ a b c : Nat, ax_vl ρ p = 4 * a ∧ ax_vl ρ q = 4 * b ∧ ax_vl ρ r = 4 * c ∧ a < 4294967296 ∧ b < 4294967296 ∧ c < 4294967296 ∧ rx_bi a + rx_bi b = rx_bi c + 2147483648 := by
  obtain ⟨-, h⟩ := (ax_XF_bi (o := 15) (by decide)).mp (ax_gx hE _ h)
  exact h
/-- how two numbers stand to each other -/
theorem ax_gc {w : ax_W} {X : ax_X} {ρ : Nat → Nat} {E : ax_E} {hp : rx_H} (hE : ax_EO w X ρ E hp) (k p q : Nat) (hk : k < 6) (h : (1020 + k, [p, q]) ∈ E.2.2.2.2) : ax_cnd k (rx_bi (ax_vl ρ p / 4)) (rx_bi (ax_vl ρ q / 4)) := by
  have h1 := ax_gx hE _ h
  have e : 1020 + k = 1000 + (20 + k) := by omega
  dsimp only at h1
  rw [e] at h1
  rcases (ax_XF_bi (by omega)).mp h1 with ⟨k', h2, h3, h4⟩ | ⟨h3, -⟩
  · have e2 : k' = k := by omega
    rw [e2] at h4
    exact h4
  · omega
/-- a number over another plus 1 -/
theorem ax_sum1 {a b c : Nat} (hb : b = 1) (ha : a < 2147483648) (hc : c < 4294967296) (h : rx_bi a + rx_bi b = rx_bi c + 2147483648) : c = a + 1 := by
  subst hb
  rw [ax_bi_nat ha, ax_bi_nat (show 1 < 2147483648 by decide), ax_bi_def] at h
  omega
theorem ax_vl_c {ρ : Nat → Nat} {v : Nat} (h : v % 4 ≠ 3) : ax_vl ρ v = v := by unfold ax_vl; rw [if_neg h]
/-- a cell's content of a pattern, its place and index told -/
theorem ax_gF {w : ax_W} {X : ax_X} {ρ : Nat → Nat} {E : ax_E} {hp : rx_H} (hE : ax_EO w X ρ E hp) (a i v q j x : Nat) (h : (1200, [a, i, v]) ∈ E.2.2.2.2) (e1 : ax_vl ρ a / 4 - 2 = q) (e2 : ax_vl ρ i / 4 = j) (e3 : ax_vl ρ v = x) : ∃ (k m : Nat) (l : List Nat), rx_hg hp q = some (k, m, l) ∧ l[j]? = some x := by
  obtain ⟨k, m, l, h1, h2⟩ := ax_gf hE (a, i, v) h
  refine ⟨k, m, l, ?_, ?_⟩
  · rw [← e1]; exact h1
  · rw [← e2, ← e3]; exact h2
theorem ax_ro_nil {w : ax_W} {X : ax_X} : ∀ x ∈ ([] : List ax_RL), ax_RO w X x := by
  intro x hx
  cases hx
theorem ax_ro_cons {w : ax_W} {X : ax_X} {r : ax_RL} {rl : List ax_RL} (h : ax_RO w X r) (hl : ∀ x ∈ rl, ax_RO w X x) : ∀ x ∈ r :: rl, ax_RO w X x := by
  intro x hx
  rcases List.mem_cons.mp hx with e | e
  · rw [e]; exact h
  · exact hl x e
theorem ax_m0 {α : Type} {x0 : α} {l : List α} : x0 ∈ x0 :: l := List.Mem.head _
theorem ax_m1 {α : Type} {x0 x1 : α} {l : List α} : x1 ∈ x0 :: x1 :: l := List.Mem.tail _ (List.Mem.head _)
theorem ax_m2 {α : Type} {x0 x1 x2 : α} {l : List α} : x2 ∈ x0 :: x1 :: x2 :: l := List.Mem.tail _ (List.Mem.tail _ (List.Mem.head _))
theorem ax_m3 {α : Type} {x0 x1 x2 x3 : α} {l : List α} : x3 ∈ x0 :: x1 :: x2 :: x3 :: l := List.Mem.tail _ (List.Mem.tail _ (List.Mem.tail _ (List.Mem.head _)))
theorem ax_m4 {α : Type} {x0 x1 x2 x3 x4 : α} {l : List α} : x4 ∈ x0 :: x1 :: x2 :: x3 :: x4 :: l := List.Mem.tail _ (List.Mem.tail _ (List.Mem.tail _ (List.Mem.tail _ (List.Mem.head _))))
theorem ax_m5 {α : Type} {x0 x1 x2 x3 x4 x5 : α} {l : List α} : x5 ∈ x0 :: x1 :: x2 :: x3 :: x4 :: x5 :: l := List.Mem.tail _ (List.Mem.tail _ (List.Mem.tail _ (List.Mem.tail _ (List.Mem.tail _ (List.Mem.head _)))))
theorem ax_m6 {α : Type} {x0 x1 x2 x3 x4 x5 x6 : α} {l : List α} : x6 ∈ x0 :: x1 :: x2 :: x3 :: x4 :: x5 :: x6 :: l := List.Mem.tail _ (List.Mem.tail _ (List.Mem.tail _ (List.Mem.tail _ (List.Mem.tail _ (List.Mem.tail _ (List.Mem.head _))))))
theorem ax_m7 {α : Type} {x0 x1 x2 x3 x4 x5 x6 x7 : α} {l : List α} : x7 ∈ x0 :: x1 :: x2 :: x3 :: x4 :: x5 :: x6 :: x7 :: l := List.Mem.tail _ (List.Mem.tail _ (List.Mem.tail _ (List.Mem.tail _ (List.Mem.tail _ (List.Mem.tail _ (List.Mem.tail _ (List.Mem.head _)))))))
theorem ax_m8 {α : Type} {x0 x1 x2 x3 x4 x5 x6 x7 x8 : α} {l : List α} : x8 ∈ x0 :: x1 :: x2 :: x3 :: x4 :: x5 :: x6 :: x7 :: x8 :: l := List.Mem.tail _ (List.Mem.tail _ (List.Mem.tail _ (List.Mem.tail _ (List.Mem.tail _ (List.Mem.tail _ (List.Mem.tail _ (List.Mem.tail _ (List.Mem.head _))))))))
theorem ax_m9 {α : Type} {x0 x1 x2 x3 x4 x5 x6 x7 x8 x9 : α} {l : List α} : x9 ∈ x0 :: x1 :: x2 :: x3 :: x4 :: x5 :: x6 :: x7 :: x8 :: x9 :: l := List.Mem.tail _ (List.Mem.tail _ (List.Mem.tail _ (List.Mem.tail _ (List.Mem.tail _ (List.Mem.tail _ (List.Mem.tail _ (List.Mem.tail _ (List.Mem.tail _ (List.Mem.head _)))))))))
theorem ax_m10 {α : Type} {x0 x1 x2 x3 x4 x5 x6 x7 x8 x9 x10 : α} {l : List α} : x10 ∈ x0 :: x1 :: x2 :: x3 :: x4 :: x5 :: x6 :: x7 :: x8 :: x9 :: x10 :: l := List.Mem.tail _ (List.Mem.tail _ (List.Mem.tail _ (List.Mem.tail _ (List.Mem.tail _ (List.Mem.tail _ (List.Mem.tail _ (List.Mem.tail _ (List.Mem.tail _ (List.Mem.tail _ (List.Mem.head _))))))))))
theorem ax_m11 {α : Type} {x0 x1 x2 x3 x4 x5 x6 x7 x8 x9 x10 x11 : α} {l : List α} : x11 ∈ x0 :: x1 :: x2 :: x3 :: x4 :: x5 :: x6 :: x7 :: x8 :: x9 :: x10 :: x11 :: l := List.Mem.tail _ (List.Mem.tail _ (List.Mem.tail _ (List.Mem.tail _ (List.Mem.tail _ (List.Mem.tail _ (List.Mem.tail _ (List.Mem.tail _ (List.Mem.tail _ (List.Mem.tail _ (List.Mem.tail _ (List.Mem.head _)))))))))))
theorem ax_m12 {α : Type} {x0 x1 x2 x3 x4 x5 x6 x7 x8 x9 x10 x11 x12 : α} {l : List α} : x12 ∈ x0 :: x1 :: x2 :: x3 :: x4 :: x5 :: x6 :: x7 :: x8 :: x9 :: x10 :: x11 :: x12 :: l := List.Mem.tail _ (List.Mem.tail _ (List.Mem.tail _ (List.Mem.tail _ (List.Mem.tail _ (List.Mem.tail _ (List.Mem.tail _ (List.Mem.tail _ (List.Mem.tail _ (List.Mem.tail _ (List.Mem.tail _ (List.Mem.tail _ (List.Mem.head _))))))))))))
theorem ax_m13 {α : Type} {x0 x1 x2 x3 x4 x5 x6 x7 x8 x9 x10 x11 x12 x13 : α} {l : List α} : x13 ∈ x0 :: x1 :: x2 :: x3 :: x4 :: x5 :: x6 :: x7 :: x8 :: x9 :: x10 :: x11 :: x12 :: x13 :: l := List.Mem.tail _ (List.Mem.tail _ (List.Mem.tail _ (List.Mem.tail _ (List.Mem.tail _ (List.Mem.tail _ (List.Mem.tail _ (List.Mem.tail _ (List.Mem.tail _ (List.Mem.tail _ (List.Mem.tail _ (List.Mem.tail _ (List.Mem.tail _ (List.Mem.head _)))))))))))))
theorem ax_m14 {α : Type} {x0 x1 x2 x3 x4 x5 x6 x7 x8 x9 x10 x11 x12 x13 x14 : α} {l : List α} : x14 ∈ x0 :: x1 :: x2 :: x3 :: x4 :: x5 :: x6 :: x7 :: x8 :: x9 :: x10 :: x11 :: x12 :: x13 :: x14 :: l := List.Mem.tail _ (List.Mem.tail _ (List.Mem.tail _ (List.Mem.tail _ (List.Mem.tail _ (List.Mem.tail _ (List.Mem.tail _ (List.Mem.tail _ (List.Mem.tail _ (List.Mem.tail _ (List.Mem.tail _ (List.Mem.tail _ (List.Mem.tail _ (List.Mem.tail _ (List.Mem.head _))))))))))))))
theorem ax_m15 {α : Type} {x0 x1 x2 x3 x4 x5 x6 x7 x8 x9 x10 x11 x12 x13 x14 x15 : α} {l : List α} : x15 ∈ x0 :: x1 :: x2 :: x3 :: x4 :: x5 :: x6 :: x7 :: x8 :: x9 :: x10 :: x11 :: x12 :: x13 :: x14 :: x15 :: l := List.Mem.tail _ (List.Mem.tail _ (List.Mem.tail _ (List.Mem.tail _ (List.Mem.tail _ (List.Mem.tail _ (List.Mem.tail _ (List.Mem.tail _ (List.Mem.tail _ (List.Mem.tail _ (List.Mem.tail _ (List.Mem.tail _ (List.Mem.tail _ (List.Mem.tail _ (List.Mem.tail _ (List.Mem.head _)))))))))))))))
theorem ax_m16 {α : Type} {x0 x1 x2 x3 x4 x5 x6 x7 x8 x9 x10 x11 x12 x13 x14 x15 x16 : α} {l : List α} : x16 ∈ x0 :: x1 :: x2 :: x3 :: x4 :: x5 :: x6 :: x7 :: x8 :: x9 :: x10 :: x11 :: x12 :: x13 :: x14 :: x15 :: x16 :: l := List.Mem.tail _ (List.Mem.tail _ (List.Mem.tail _ (List.Mem.tail _ (List.Mem.tail _ (List.Mem.tail _ (List.Mem.tail _ (List.Mem.tail _ (List.Mem.tail _ (List.Mem.tail _ (List.Mem.tail _ (List.Mem.tail _ (List.Mem.tail _ (List.Mem.tail _ (List.Mem.tail _ (List.Mem.tail _ (List.Mem.head _))))))))))))))))
theorem ax_m17 {α : Type} {x0 x1 x2 x3 x4 x5 x6 x7 x8 x9 x10 x11 x12 x13 x14 x15 x16 x17 : α} {l : List α} : x17 ∈ x0 :: x1 :: x2 :: x3 :: x4 :: x5 :: x6 :: x7 :: x8 :: x9 :: x10 :: x11 :: x12 :: x13 :: x14 :: x15 :: x16 :: x17 :: l := List.Mem.tail _ (List.Mem.tail _ (List.Mem.tail _ (List.Mem.tail _ (List.Mem.tail _ (List.Mem.tail _ (List.Mem.tail _ (List.Mem.tail _ (List.Mem.tail _ (List.Mem.tail _ (List.Mem.tail _ (List.Mem.tail _ (List.Mem.tail _ (List.Mem.tail _ (List.Mem.tail _ (List.Mem.tail _ (List.Mem.tail _ (List.Mem.head _)))))))))))))))))
theorem ax_m18 {α : Type} {x0 x1 x2 x3 x4 x5 x6 x7 x8 x9 x10 x11 x12 x13 x14 x15 x16 x17 x18 : α} {l : List α} : x18 ∈ x0 :: x1 :: x2 :: x3 :: x4 :: x5 :: x6 :: x7 :: x8 :: x9 :: x10 :: x11 :: x12 :: x13 :: x14 :: x15 :: x16 :: x17 :: x18 :: l := List.Mem.tail _ (List.Mem.tail _ (List.Mem.tail _ (List.Mem.tail _ (List.Mem.tail _ (List.Mem.tail _ (List.Mem.tail _ (List.Mem.tail _ (List.Mem.tail _ (List.Mem.tail _ (List.Mem.tail _ (List.Mem.tail _ (List.Mem.tail _ (List.Mem.tail _ (List.Mem.tail _ (List.Mem.tail _ (List.Mem.tail _ (List.Mem.tail _ (List.Mem.head _))))))))))))))))))
theorem ax_m19 {α : Type} {x0 x1 x2 x3 x4 x5 x6 x7 x8 x9 x10 x11 x12 x13 x14 x15 x16 x17 x18 x19 : α} {l : List α} : x19 ∈ x0 :: x1 :: x2 :: x3 :: x4 :: x5 :: x6 :: x7 :: x8 :: x9 :: x10 :: x11 :: x12 :: x13 :: x14 :: x15 :: x16 :: x17 :: x18 :: x19 :: l := List.Mem.tail _ (List.Mem.tail _ (List.Mem.tail _ (List.Mem.tail _ (List.Mem.tail _ (List.Mem.tail _ (List.Mem.tail _ (List.Mem.tail _ (List.Mem.tail _ (List.Mem.tail _ (List.Mem.tail _ (List.Mem.tail _ (List.Mem.tail _ (List.Mem.tail _ (List.Mem.tail _ (List.Mem.tail _ (List.Mem.tail _ (List.Mem.tail _ (List.Mem.tail _ (List.Mem.head _)))))))))))))))))))
theorem ax_m20 {α : Type} {x0 x1 x2 x3 x4 x5 x6 x7 x8 x9 x10 x11 x12 x13 x14 x15 x16 x17 x18 x19 x20 : α} {l : List α} : x20 ∈ x0 :: x1 :: x2 :: x3 :: x4 :: x5 :: x6 :: x7 :: x8 :: x9 :: x10 :: x11 :: x12 :: x13 :: x14 :: x15 :: x16 :: x17 :: x18 :: x19 :: x20 :: l := List.Mem.tail _ (List.Mem.tail _ (List.Mem.tail _ (List.Mem.tail _ (List.Mem.tail _ (List.Mem.tail _ (List.Mem.tail _ (List.Mem.tail _ (List.Mem.tail _ (List.Mem.tail _ (List.Mem.tail _ (List.Mem.tail _ (List.Mem.tail _ (List.Mem.tail _ (List.Mem.tail _ (List.Mem.tail _ (List.Mem.tail _ (List.Mem.tail _ (List.Mem.tail _ (List.Mem.tail _ (List.Mem.head _))))))))))))))))))))
theorem ax_m21 {α : Type} {x0 x1 x2 x3 x4 x5 x6 x7 x8 x9 x10 x11 x12 x13 x14 x15 x16 x17 x18 x19 x20 x21 : α} {l : List α} : x21 ∈ x0 :: x1 :: x2 :: x3 :: x4 :: x5 :: x6 :: x7 :: x8 :: x9 :: x10 :: x11 :: x12 :: x13 :: x14 :: x15 :: x16 :: x17 :: x18 :: x19 :: x20 :: x21 :: l := List.Mem.tail _ (List.Mem.tail _ (List.Mem.tail _ (List.Mem.tail _ (List.Mem.tail _ (List.Mem.tail _ (List.Mem.tail _ (List.Mem.tail _ (List.Mem.tail _ (List.Mem.tail _ (List.Mem.tail _ (List.Mem.tail _ (List.Mem.tail _ (List.Mem.tail _ (List.Mem.tail _ (List.Mem.tail _ (List.Mem.tail _ (List.Mem.tail _ (List.Mem.tail _ (List.Mem.tail _ (List.Mem.tail _ (List.Mem.head _)))))))))))))))))))))
theorem ax_m22 {α : Type} {x0 x1 x2 x3 x4 x5 x6 x7 x8 x9 x10 x11 x12 x13 x14 x15 x16 x17 x18 x19 x20 x21 x22 : α} {l : List α} : x22 ∈ x0 :: x1 :: x2 :: x3 :: x4 :: x5 :: x6 :: x7 :: x8 :: x9 :: x10 :: x11 :: x12 :: x13 :: x14 :: x15 :: x16 :: x17 :: x18 :: x19 :: x20 :: x21 :: x22 :: l := List.Mem.tail _ (List.Mem.tail _ (List.Mem.tail _ (List.Mem.tail _ (List.Mem.tail _ (List.Mem.tail _ (List.Mem.tail _ (List.Mem.tail _ (List.Mem.tail _ (List.Mem.tail _ (List.Mem.tail _ (List.Mem.tail _ (List.Mem.tail _ (List.Mem.tail _ (List.Mem.tail _ (List.Mem.tail _ (List.Mem.tail _ (List.Mem.tail _ (List.Mem.tail _ (List.Mem.tail _ (List.Mem.tail _ (List.Mem.tail _ (List.Mem.head _))))))))))))))))))))))
theorem ax_m23 {α : Type} {x0 x1 x2 x3 x4 x5 x6 x7 x8 x9 x10 x11 x12 x13 x14 x15 x16 x17 x18 x19 x20 x21 x22 x23 : α} {l : List α} : x23 ∈ x0 :: x1 :: x2 :: x3 :: x4 :: x5 :: x6 :: x7 :: x8 :: x9 :: x10 :: x11 :: x12 :: x13 :: x14 :: x15 :: x16 :: x17 :: x18 :: x19 :: x20 :: x21 :: x22 :: x23 :: l := List.Mem.tail _ (List.Mem.tail _ (List.Mem.tail _ (List.Mem.tail _ (List.Mem.tail _ (List.Mem.tail _ (List.Mem.tail _ (List.Mem.tail _ (List.Mem.tail _ (List.Mem.tail _ (List.Mem.tail _ (List.Mem.tail _ (List.Mem.tail _ (List.Mem.tail _ (List.Mem.tail _ (List.Mem.tail _ (List.Mem.tail _ (List.Mem.tail _ (List.Mem.tail _ (List.Mem.tail _ (List.Mem.tail _ (List.Mem.tail _ (List.Mem.tail _ (List.Mem.head _)))))))))))))))))))))))
theorem ax_m24 {α : Type} {x0 x1 x2 x3 x4 x5 x6 x7 x8 x9 x10 x11 x12 x13 x14 x15 x16 x17 x18 x19 x20 x21 x22 x23 x24 : α} {l : List α} : x24 ∈ x0 :: x1 :: x2 :: x3 :: x4 :: x5 :: x6 :: x7 :: x8 :: x9 :: x10 :: x11 :: x12 :: x13 :: x14 :: x15 :: x16 :: x17 :: x18 :: x19 :: x20 :: x21 :: x22 :: x23 :: x24 :: l := List.Mem.tail _ (List.Mem.tail _ (List.Mem.tail _ (List.Mem.tail _ (List.Mem.tail _ (List.Mem.tail _ (List.Mem.tail _ (List.Mem.tail _ (List.Mem.tail _ (List.Mem.tail _ (List.Mem.tail _ (List.Mem.tail _ (List.Mem.tail _ (List.Mem.tail _ (List.Mem.tail _ (List.Mem.tail _ (List.Mem.tail _ (List.Mem.tail _ (List.Mem.tail _ (List.Mem.tail _ (List.Mem.tail _ (List.Mem.tail _ (List.Mem.tail _ (List.Mem.tail _ (List.Mem.head _))))))))))))))))))))))))
theorem ax_m25 {α : Type} {x0 x1 x2 x3 x4 x5 x6 x7 x8 x9 x10 x11 x12 x13 x14 x15 x16 x17 x18 x19 x20 x21 x22 x23 x24 x25 : α} {l : List α} : x25 ∈ x0 :: x1 :: x2 :: x3 :: x4 :: x5 :: x6 :: x7 :: x8 :: x9 :: x10 :: x11 :: x12 :: x13 :: x14 :: x15 :: x16 :: x17 :: x18 :: x19 :: x20 :: x21 :: x22 :: x23 :: x24 :: x25 :: l := List.Mem.tail _ (List.Mem.tail _ (List.Mem.tail _ (List.Mem.tail _ (List.Mem.tail _ (List.Mem.tail _ (List.Mem.tail _ (List.Mem.tail _ (List.Mem.tail _ (List.Mem.tail _ (List.Mem.tail _ (List.Mem.tail _ (List.Mem.tail _ (List.Mem.tail _ (List.Mem.tail _ (List.Mem.tail _ (List.Mem.tail _ (List.Mem.tail _ (List.Mem.tail _ (List.Mem.tail _ (List.Mem.tail _ (List.Mem.tail _ (List.Mem.tail _ (List.Mem.tail _ (List.Mem.tail _ (List.Mem.head _)))))))))))))))))))))))))
theorem ax_m26 {α : Type} {x0 x1 x2 x3 x4 x5 x6 x7 x8 x9 x10 x11 x12 x13 x14 x15 x16 x17 x18 x19 x20 x21 x22 x23 x24 x25 x26 : α} {l : List α} : x26 ∈ x0 :: x1 :: x2 :: x3 :: x4 :: x5 :: x6 :: x7 :: x8 :: x9 :: x10 :: x11 :: x12 :: x13 :: x14 :: x15 :: x16 :: x17 :: x18 :: x19 :: x20 :: x21 :: x22 :: x23 :: x24 :: x25 :: x26 :: l := List.Mem.tail _ (List.Mem.tail _ (List.Mem.tail _ (List.Mem.tail _ (List.Mem.tail _ (List.Mem.tail _ (List.Mem.tail _ (List.Mem.tail _ (List.Mem.tail _ (List.Mem.tail _ (List.Mem.tail _ (List.Mem.tail _ (List.Mem.tail _ (List.Mem.tail _ (List.Mem.tail _ (List.Mem.tail _ (List.Mem.tail _ (List.Mem.tail _ (List.Mem.tail _ (List.Mem.tail _ (List.Mem.tail _ (List.Mem.tail _ (List.Mem.tail _ (List.Mem.tail _ (List.Mem.tail _ (List.Mem.tail _ (List.Mem.head _))))))))))))))))))))))))))
theorem ax_m27 {α : Type} {x0 x1 x2 x3 x4 x5 x6 x7 x8 x9 x10 x11 x12 x13 x14 x15 x16 x17 x18 x19 x20 x21 x22 x23 x24 x25 x26 x27 : α} {l : List α} : x27 ∈ x0 :: x1 :: x2 :: x3 :: x4 :: x5 :: x6 :: x7 :: x8 :: x9 :: x10 :: x11 :: x12 :: x13 :: x14 :: x15 :: x16 :: x17 :: x18 :: x19 :: x20 :: x21 :: x22 :: x23 :: x24 :: x25 :: x26 :: x27 :: l := List.Mem.tail _ (List.Mem.tail _ (List.Mem.tail _ (List.Mem.tail _ (List.Mem.tail _ (List.Mem.tail _ (List.Mem.tail _ (List.Mem.tail _ (List.Mem.tail _ (List.Mem.tail _ (List.Mem.tail _ (List.Mem.tail _ (List.Mem.tail _ (List.Mem.tail _ (List.Mem.tail _ (List.Mem.tail _ (List.Mem.tail _ (List.Mem.tail _ (List.Mem.tail _ (List.Mem.tail _ (List.Mem.tail _ (List.Mem.tail _ (List.Mem.tail _ (List.Mem.tail _ (List.Mem.tail _ (List.Mem.tail _ (List.Mem.tail _ (List.Mem.head _)))))))))))))))))))))))))))
theorem ax_m28 {α : Type} {x0 x1 x2 x3 x4 x5 x6 x7 x8 x9 x10 x11 x12 x13 x14 x15 x16 x17 x18 x19 x20 x21 x22 x23 x24 x25 x26 x27 x28 : α} {l : List α} : x28 ∈ x0 :: x1 :: x2 :: x3 :: x4 :: x5 :: x6 :: x7 :: x8 :: x9 :: x10 :: x11 :: x12 :: x13 :: x14 :: x15 :: x16 :: x17 :: x18 :: x19 :: x20 :: x21 :: x22 :: x23 :: x24 :: x25 :: x26 :: x27 :: x28 :: l := List.Mem.tail _ (List.Mem.tail _ (List.Mem.tail _ (List.Mem.tail _ (List.Mem.tail _ (List.Mem.tail _ (List.Mem.tail _ (List.Mem.tail _ (List.Mem.tail _ (List.Mem.tail _ (List.Mem.tail _ (List.Mem.tail _ (List.Mem.tail _ (List.Mem.tail _ (List.Mem.tail _ (List.Mem.tail _ (List.Mem.tail _ (List.Mem.tail _ (List.Mem.tail _ (List.Mem.tail _ (List.Mem.tail _ (List.Mem.tail _ (List.Mem.tail _ (List.Mem.tail _ (List.Mem.tail _ (List.Mem.tail _ (List.Mem.tail _ (List.Mem.tail _ (List.Mem.head _))))))))))))))))))))))))))))
theorem ax_m29 {α : Type} {x0 x1 x2 x3 x4 x5 x6 x7 x8 x9 x10 x11 x12 x13 x14 x15 x16 x17 x18 x19 x20 x21 x22 x23 x24 x25 x26 x27 x28 x29 : α} {l : List α} : x29 ∈ x0 :: x1 :: x2 :: x3 :: x4 :: x5 :: x6 :: x7 :: x8 :: x9 :: x10 :: x11 :: x12 :: x13 :: x14 :: x15 :: x16 :: x17 :: x18 :: x19 :: x20 :: x21 :: x22 :: x23 :: x24 :: x25 :: x26 :: x27 :: x28 :: x29 :: l := List.Mem.tail _ (List.Mem.tail _ (List.Mem.tail _ (List.Mem.tail _ (List.Mem.tail _ (List.Mem.tail _ (List.Mem.tail _ (List.Mem.tail _ (List.Mem.tail _ (List.Mem.tail _ (List.Mem.tail _ (List.Mem.tail _ (List.Mem.tail _ (List.Mem.tail _ (List.Mem.tail _ (List.Mem.tail _ (List.Mem.tail _ (List.Mem.tail _ (List.Mem.tail _ (List.Mem.tail _ (List.Mem.tail _ (List.Mem.tail _ (List.Mem.tail _ (List.Mem.tail _ (List.Mem.tail _ (List.Mem.tail _ (List.Mem.tail _ (List.Mem.tail _ (List.Mem.tail _ (List.Mem.head _)))))))))))))))))))))))))))))
theorem ax_m30 {α : Type} {x0 x1 x2 x3 x4 x5 x6 x7 x8 x9 x10 x11 x12 x13 x14 x15 x16 x17 x18 x19 x20 x21 x22 x23 x24 x25 x26 x27 x28 x29 x30 : α} {l : List α} : x30 ∈ x0 :: x1 :: x2 :: x3 :: x4 :: x5 :: x6 :: x7 :: x8 :: x9 :: x10 :: x11 :: x12 :: x13 :: x14 :: x15 :: x16 :: x17 :: x18 :: x19 :: x20 :: x21 :: x22 :: x23 :: x24 :: x25 :: x26 :: x27 :: x28 :: x29 :: x30 :: l := List.Mem.tail _ (List.Mem.tail _ (List.Mem.tail _ (List.Mem.tail _ (List.Mem.tail _ (List.Mem.tail _ (List.Mem.tail _ (List.Mem.tail _ (List.Mem.tail _ (List.Mem.tail _ (List.Mem.tail _ (List.Mem.tail _ (List.Mem.tail _ (List.Mem.tail _ (List.Mem.tail _ (List.Mem.tail _ (List.Mem.tail _ (List.Mem.tail _ (List.Mem.tail _ (List.Mem.tail _ (List.Mem.tail _ (List.Mem.tail _ (List.Mem.tail _ (List.Mem.tail _ (List.Mem.tail _ (List.Mem.tail _ (List.Mem.tail _ (List.Mem.tail _ (List.Mem.tail _ (List.Mem.tail _ (List.Mem.head _))))))))))))))))))))))))))))))
theorem ax_m31 {α : Type} {x0 x1 x2 x3 x4 x5 x6 x7 x8 x9 x10 x11 x12 x13 x14 x15 x16 x17 x18 x19 x20 x21 x22 x23 x24 x25 x26 x27 x28 x29 x30 x31 : α} {l : List α} : x31 ∈ x0 :: x1 :: x2 :: x3 :: x4 :: x5 :: x6 :: x7 :: x8 :: x9 :: x10 :: x11 :: x12 :: x13 :: x14 :: x15 :: x16 :: x17 :: x18 :: x19 :: x20 :: x21 :: x22 :: x23 :: x24 :: x25 :: x26 :: x27 :: x28 :: x29 :: x30 :: x31 :: l := List.Mem.tail _ (List.Mem.tail _ (List.Mem.tail _ (List.Mem.tail _ (List.Mem.tail _ (List.Mem.tail _ (List.Mem.tail _ (List.Mem.tail _ (List.Mem.tail _ (List.Mem.tail _ (List.Mem.tail _ (List.Mem.tail _ (List.Mem.tail _ (List.Mem.tail _ (List.Mem.tail _ (List.Mem.tail _ (List.Mem.tail _ (List.Mem.tail _ (List.Mem.tail _ (List.Mem.tail _ (List.Mem.tail _ (List.Mem.tail _ (List.Mem.tail _ (List.Mem.tail _ (List.Mem.tail _ (List.Mem.tail _ (List.Mem.tail _ (List.Mem.tail _ (List.Mem.tail _ (List.Mem.tail _ (List.Mem.tail _ (List.Mem.head _)))))))))))))))))))))))))))))))
theorem ax_m32 {α : Type} {x0 x1 x2 x3 x4 x5 x6 x7 x8 x9 x10 x11 x12 x13 x14 x15 x16 x17 x18 x19 x20 x21 x22 x23 x24 x25 x26 x27 x28 x29 x30 x31 x32 : α} {l : List α} : x32 ∈ x0 :: x1 :: x2 :: x3 :: x4 :: x5 :: x6 :: x7 :: x8 :: x9 :: x10 :: x11 :: x12 :: x13 :: x14 :: x15 :: x16 :: x17 :: x18 :: x19 :: x20 :: x21 :: x22 :: x23 :: x24 :: x25 :: x26 :: x27 :: x28 :: x29 :: x30 :: x31 :: x32 :: l := List.Mem.tail _ (List.Mem.tail _ (List.Mem.tail _ (List.Mem.tail _ (List.Mem.tail _ (List.Mem.tail _ (List.Mem.tail _ (List.Mem.tail _ (List.Mem.tail _ (List.Mem.tail _ (List.Mem.tail _ (List.Mem.tail _ (List.Mem.tail _ (List.Mem.tail _ (List.Mem.tail _ (List.Mem.tail _ (List.Mem.tail _ (List.Mem.tail _ (List.Mem.tail _ (List.Mem.tail _ (List.Mem.tail _ (List.Mem.tail _ (List.Mem.tail _ (List.Mem.tail _ (List.Mem.tail _ (List.Mem.tail _ (List.Mem.tail _ (List.Mem.tail _ (List.Mem.tail _ (List.Mem.tail _ (List.Mem.tail _ (List.Mem.tail _ (List.Mem.head _))))))))))))))))))))))))))))))))
theorem ax_m33 {α : Type} {x0 x1 x2 x3 x4 x5 x6 x7 x8 x9 x10 x11 x12 x13 x14 x15 x16 x17 x18 x19 x20 x21 x22 x23 x24 x25 x26 x27 x28 x29 x30 x31 x32 x33 : α} {l : List α} : x33 ∈ x0 :: x1 :: x2 :: x3 :: x4 :: x5 :: x6 :: x7 :: x8 :: x9 :: x10 :: x11 :: x12 :: x13 :: x14 :: x15 :: x16 :: x17 :: x18 :: x19 :: x20 :: x21 :: x22 :: x23 :: x24 :: x25 :: x26 :: x27 :: x28 :: x29 :: x30 :: x31 :: x32 :: x33 :: l := List.Mem.tail _ (List.Mem.tail _ (List.Mem.tail _ (List.Mem.tail _ (List.Mem.tail _ (List.Mem.tail _ (List.Mem.tail _ (List.Mem.tail _ (List.Mem.tail _ (List.Mem.tail _ (List.Mem.tail _ (List.Mem.tail _ (List.Mem.tail _ (List.Mem.tail _ (List.Mem.tail _ (List.Mem.tail _ (List.Mem.tail _ (List.Mem.tail _ (List.Mem.tail _ (List.Mem.tail _ (List.Mem.tail _ (List.Mem.tail _ (List.Mem.tail _ (List.Mem.tail _ (List.Mem.tail _ (List.Mem.tail _ (List.Mem.tail _ (List.Mem.tail _ (List.Mem.tail _ (List.Mem.tail _ (List.Mem.tail _ (List.Mem.tail _ (List.Mem.tail _ (List.Mem.head _)))))))))))))))))))))))))))))))))
theorem ax_m34 {α : Type} {x0 x1 x2 x3 x4 x5 x6 x7 x8 x9 x10 x11 x12 x13 x14 x15 x16 x17 x18 x19 x20 x21 x22 x23 x24 x25 x26 x27 x28 x29 x30 x31 x32 x33 x34 : α} {l : List α} : x34 ∈ x0 :: x1 :: x2 :: x3 :: x4 :: x5 :: x6 :: x7 :: x8 :: x9 :: x10 :: x11 :: x12 :: x13 :: x14 :: x15 :: x16 :: x17 :: x18 :: x19 :: x20 :: x21 :: x22 :: x23 :: x24 :: x25 :: x26 :: x27 :: x28 :: x29 :: x30 :: x31 :: x32 :: x33 :: x34 :: l := List.Mem.tail _ (List.Mem.tail _ (List.Mem.tail _ (List.Mem.tail _ (List.Mem.tail _ (List.Mem.tail _ (List.Mem.tail _ (List.Mem.tail _ (List.Mem.tail _ (List.Mem.tail _ (List.Mem.tail _ (List.Mem.tail _ (List.Mem.tail _ (List.Mem.tail _ (List.Mem.tail _ (List.Mem.tail _ (List.Mem.tail _ (List.Mem.tail _ (List.Mem.tail _ (List.Mem.tail _ (List.Mem.tail _ (List.Mem.tail _ (List.Mem.tail _ (List.Mem.tail _ (List.Mem.tail _ (List.Mem.tail _ (List.Mem.tail _ (List.Mem.tail _ (List.Mem.tail _ (List.Mem.tail _ (List.Mem.tail _ (List.Mem.tail _ (List.Mem.tail _ (List.Mem.tail _ (List.Mem.head _))))))))))))))))))))))))))))))))))
theorem ax_m35 {α : Type} {x0 x1 x2 x3 x4 x5 x6 x7 x8 x9 x10 x11 x12 x13 x14 x15 x16 x17 x18 x19 x20 x21 x22 x23 x24 x25 x26 x27 x28 x29 x30 x31 x32 x33 x34 x35 : α} {l : List α} : x35 ∈ x0 :: x1 :: x2 :: x3 :: x4 :: x5 :: x6 :: x7 :: x8 :: x9 :: x10 :: x11 :: x12 :: x13 :: x14 :: x15 :: x16 :: x17 :: x18 :: x19 :: x20 :: x21 :: x22 :: x23 :: x24 :: x25 :: x26 :: x27 :: x28 :: x29 :: x30 :: x31 :: x32 :: x33 :: x34 :: x35 :: l := List.Mem.tail _ (List.Mem.tail _ (List.Mem.tail _ (List.Mem.tail _ (List.Mem.tail _ (List.Mem.tail _ (List.Mem.tail _ (List.Mem.tail _ (List.Mem.tail _ (List.Mem.tail _ (List.Mem.tail _ (List.Mem.tail _ (List.Mem.tail _ (List.Mem.tail _ (List.Mem.tail _ (List.Mem.tail _ (List.Mem.tail _ (List.Mem.tail _ (List.Mem.tail _ (List.Mem.tail _ (List.Mem.tail _ (List.Mem.tail _ (List.Mem.tail _ (List.Mem.tail _ (List.Mem.tail _ (List.Mem.tail _ (List.Mem.tail _ (List.Mem.tail _ (List.Mem.tail _ (List.Mem.tail _ (List.Mem.tail _ (List.Mem.tail _ (List.Mem.tail _ (List.Mem.tail _ (List.Mem.tail _ (List.Mem.head _)))))))))))))))))))))))))))))))))))
theorem ax_m36 {α : Type} {x0 x1 x2 x3 x4 x5 x6 x7 x8 x9 x10 x11 x12 x13 x14 x15 x16 x17 x18 x19 x20 x21 x22 x23 x24 x25 x26 x27 x28 x29 x30 x31 x32 x33 x34 x35 x36 : α} {l : List α} : x36 ∈ x0 :: x1 :: x2 :: x3 :: x4 :: x5 :: x6 :: x7 :: x8 :: x9 :: x10 :: x11 :: x12 :: x13 :: x14 :: x15 :: x16 :: x17 :: x18 :: x19 :: x20 :: x21 :: x22 :: x23 :: x24 :: x25 :: x26 :: x27 :: x28 :: x29 :: x30 :: x31 :: x32 :: x33 :: x34 :: x35 :: x36 :: l := List.Mem.tail _ (List.Mem.tail _ (List.Mem.tail _ (List.Mem.tail _ (List.Mem.tail _ (List.Mem.tail _ (List.Mem.tail _ (List.Mem.tail _ (List.Mem.tail _ (List.Mem.tail _ (List.Mem.tail _ (List.Mem.tail _ (List.Mem.tail _ (List.Mem.tail _ (List.Mem.tail _ (List.Mem.tail _ (List.Mem.tail _ (List.Mem.tail _ (List.Mem.tail _ (List.Mem.tail _ (List.Mem.tail _ (List.Mem.tail _ (List.Mem.tail _ (List.Mem.tail _ (List.Mem.tail _ (List.Mem.tail _ (List.Mem.tail _ (List.Mem.tail _ (List.Mem.tail _ (List.Mem.tail _ (List.Mem.tail _ (List.Mem.tail _ (List.Mem.tail _ (List.Mem.tail _ (List.Mem.tail _ (List.Mem.tail _ (List.Mem.head _))))))))))))))))))))))))))))))))))))
theorem ax_m37 {α : Type} {x0 x1 x2 x3 x4 x5 x6 x7 x8 x9 x10 x11 x12 x13 x14 x15 x16 x17 x18 x19 x20 x21 x22 x23 x24 x25 x26 x27 x28 x29 x30 x31 x32 x33 x34 x35 x36 x37 : α} {l : List α} : x37 ∈ x0 :: x1 :: x2 :: x3 :: x4 :: x5 :: x6 :: x7 :: x8 :: x9 :: x10 :: x11 :: x12 :: x13 :: x14 :: x15 :: x16 :: x17 :: x18 :: x19 :: x20 :: x21 :: x22 :: x23 :: x24 :: x25 :: x26 :: x27 :: x28 :: x29 :: x30 :: x31 :: x32 :: x33 :: x34 :: x35 :: x36 :: x37 :: l := List.Mem.tail _ (List.Mem.tail _ (List.Mem.tail _ (List.Mem.tail _ (List.Mem.tail _ (List.Mem.tail _ (List.Mem.tail _ (List.Mem.tail _ (List.Mem.tail _ (List.Mem.tail _ (List.Mem.tail _ (List.Mem.tail _ (List.Mem.tail _ (List.Mem.tail _ (List.Mem.tail _ (List.Mem.tail _ (List.Mem.tail _ (List.Mem.tail _ (List.Mem.tail _ (List.Mem.tail _ (List.Mem.tail _ (List.Mem.tail _ (List.Mem.tail _ (List.Mem.tail _ (List.Mem.tail _ (List.Mem.tail _ (List.Mem.tail _ (List.Mem.tail _ (List.Mem.tail _ (List.Mem.tail _ (List.Mem.tail _ (List.Mem.tail _ (List.Mem.tail _ (List.Mem.tail _ (List.Mem.tail _ (List.Mem.tail _ (List.Mem.tail _ (List.Mem.head _)))))))))))))))))))))))))))))))))))))
theorem ax_m38 {α : Type} {x0 x1 x2 x3 x4 x5 x6 x7 x8 x9 x10 x11 x12 x13 x14 x15 x16 x17 x18 x19 x20 x21 x22 x23 x24 x25 x26 x27 x28 x29 x30 x31 x32 x33 x34 x35 x36 x37 x38 : α} {l : List α} : x38 ∈ x0 :: x1 :: x2 :: x3 :: x4 :: x5 :: x6 :: x7 :: x8 :: x9 :: x10 :: x11 :: x12 :: x13 :: x14 :: x15 :: x16 :: x17 :: x18 :: x19 :: x20 :: x21 :: x22 :: x23 :: x24 :: x25 :: x26 :: x27 :: x28 :: x29 :: x30 :: x31 :: x32 :: x33 :: x34 :: x35 :: x36 :: x37 :: x38 :: l := List.Mem.tail _ (List.Mem.tail _ (List.Mem.tail _ (List.Mem.tail _ (List.Mem.tail _ (List.Mem.tail _ (List.Mem.tail _ (List.Mem.tail _ (List.Mem.tail _ (List.Mem.tail _ (List.Mem.tail _ (List.Mem.tail _ (List.Mem.tail _ (List.Mem.tail _ (List.Mem.tail _ (List.Mem.tail _ (List.Mem.tail _ (List.Mem.tail _ (List.Mem.tail _ (List.Mem.tail _ (List.Mem.tail _ (List.Mem.tail _ (List.Mem.tail _ (List.Mem.tail _ (List.Mem.tail _ (List.Mem.tail _ (List.Mem.tail _ (List.Mem.tail _ (List.Mem.tail _ (List.Mem.tail _ (List.Mem.tail _ (List.Mem.tail _ (List.Mem.tail _ (List.Mem.tail _ (List.Mem.tail _ (List.Mem.tail _ (List.Mem.tail _ (List.Mem.tail _ (List.Mem.head _))))))))))))))))))))))))))))))))))))))
theorem ax_m39 {α : Type} {x0 x1 x2 x3 x4 x5 x6 x7 x8 x9 x10 x11 x12 x13 x14 x15 x16 x17 x18 x19 x20 x21 x22 x23 x24 x25 x26 x27 x28 x29 x30 x31 x32 x33 x34 x35 x36 x37 x38 x39 : α} {l : List α} : x39 ∈ x0 :: x1 :: x2 :: x3 :: x4 :: x5 :: x6 :: x7 :: x8 :: x9 :: x10 :: x11 :: x12 :: x13 :: x14 :: x15 :: x16 :: x17 :: x18 :: x19 :: x20 :: x21 :: x22 :: x23 :: x24 :: x25 :: x26 :: x27 :: x28 :: x29 :: x30 :: x31 :: x32 :: x33 :: x34 :: x35 :: x36 :: x37 :: x38 :: x39 :: l := List.Mem.tail _ (List.Mem.tail _ (List.Mem.tail _ (List.Mem.tail _ (List.Mem.tail _ (List.Mem.tail _ (List.Mem.tail _ (List.Mem.tail _ (List.Mem.tail _ (List.Mem.tail _ (List.Mem.tail _ (List.Mem.tail _ (List.Mem.tail _ (List.Mem.tail _ (List.Mem.tail _ (List.Mem.tail _ (List.Mem.tail _ (List.Mem.tail _ (List.Mem.tail _ (List.Mem.tail _ (List.Mem.tail _ (List.Mem.tail _ (List.Mem.tail _ (List.Mem.tail _ (List.Mem.tail _ (List.Mem.tail _ (List.Mem.tail _ (List.Mem.tail _ (List.Mem.tail _ (List.Mem.tail _ (List.Mem.tail _ (List.Mem.tail _ (List.Mem.tail _ (List.Mem.tail _ (List.Mem.tail _ (List.Mem.tail _ (List.Mem.tail _ (List.Mem.tail _ (List.Mem.tail _ (List.Mem.head _)))))))))))))))))))))))))))))))))))))))
theorem ax_m40 {α : Type} {x0 x1 x2 x3 x4 x5 x6 x7 x8 x9 x10 x11 x12 x13 x14 x15 x16 x17 x18 x19 x20 x21 x22 x23 x24 x25 x26 x27 x28 x29 x30 x31 x32 x33 x34 x35 x36 x37 x38 x39 x40 : α} {l : List α} : x40 ∈ x0 :: x1 :: x2 :: x3 :: x4 :: x5 :: x6 :: x7 :: x8 :: x9 :: x10 :: x11 :: x12 :: x13 :: x14 :: x15 :: x16 :: x17 :: x18 :: x19 :: x20 :: x21 :: x22 :: x23 :: x24 :: x25 :: x26 :: x27 :: x28 :: x29 :: x30 :: x31 :: x32 :: x33 :: x34 :: x35 :: x36 :: x37 :: x38 :: x39 :: x40 :: l := List.Mem.tail _ (List.Mem.tail _ (List.Mem.tail _ (List.Mem.tail _ (List.Mem.tail _ (List.Mem.tail _ (List.Mem.tail _ (List.Mem.tail _ (List.Mem.tail _ (List.Mem.tail _ (List.Mem.tail _ (List.Mem.tail _ (List.Mem.tail _ (List.Mem.tail _ (List.Mem.tail _ (List.Mem.tail _ (List.Mem.tail _ (List.Mem.tail _ (List.Mem.tail _ (List.Mem.tail _ (List.Mem.tail _ (List.Mem.tail _ (List.Mem.tail _ (List.Mem.tail _ (List.Mem.tail _ (List.Mem.tail _ (List.Mem.tail _ (List.Mem.tail _ (List.Mem.tail _ (List.Mem.tail _ (List.Mem.tail _ (List.Mem.tail _ (List.Mem.tail _ (List.Mem.tail _ (List.Mem.tail _ (List.Mem.tail _ (List.Mem.tail _ (List.Mem.tail _ (List.Mem.tail _ (List.Mem.tail _ (List.Mem.head _))))))))))))))))))))))))))))))))))))))))
theorem ax_m41 {α : Type} {x0 x1 x2 x3 x4 x5 x6 x7 x8 x9 x10 x11 x12 x13 x14 x15 x16 x17 x18 x19 x20 x21 x22 x23 x24 x25 x26 x27 x28 x29 x30 x31 x32 x33 x34 x35 x36 x37 x38 x39 x40 x41 : α} {l : List α} : x41 ∈ x0 :: x1 :: x2 :: x3 :: x4 :: x5 :: x6 :: x7 :: x8 :: x9 :: x10 :: x11 :: x12 :: x13 :: x14 :: x15 :: x16 :: x17 :: x18 :: x19 :: x20 :: x21 :: x22 :: x23 :: x24 :: x25 :: x26 :: x27 :: x28 :: x29 :: x30 :: x31 :: x32 :: x33 :: x34 :: x35 :: x36 :: x37 :: x38 :: x39 :: x40 :: x41 :: l := List.Mem.tail _ (List.Mem.tail _ (List.Mem.tail _ (List.Mem.tail _ (List.Mem.tail _ (List.Mem.tail _ (List.Mem.tail _ (List.Mem.tail _ (List.Mem.tail _ (List.Mem.tail _ (List.Mem.tail _ (List.Mem.tail _ (List.Mem.tail _ (List.Mem.tail _ (List.Mem.tail _ (List.Mem.tail _ (List.Mem.tail _ (List.Mem.tail _ (List.Mem.tail _ (List.Mem.tail _ (List.Mem.tail _ (List.Mem.tail _ (List.Mem.tail _ (List.Mem.tail _ (List.Mem.tail _ (List.Mem.tail _ (List.Mem.tail _ (List.Mem.tail _ (List.Mem.tail _ (List.Mem.tail _ (List.Mem.tail _ (List.Mem.tail _ (List.Mem.tail _ (List.Mem.tail _ (List.Mem.tail _ (List.Mem.tail _ (List.Mem.tail _ (List.Mem.tail _ (List.Mem.tail _ (List.Mem.tail _ (List.Mem.tail _ (List.Mem.head _)))))))))))))))))))))))))))))))))))))))))
theorem ax_m42 {α : Type} {x0 x1 x2 x3 x4 x5 x6 x7 x8 x9 x10 x11 x12 x13 x14 x15 x16 x17 x18 x19 x20 x21 x22 x23 x24 x25 x26 x27 x28 x29 x30 x31 x32 x33 x34 x35 x36 x37 x38 x39 x40 x41 x42 : α} {l : List α} : x42 ∈ x0 :: x1 :: x2 :: x3 :: x4 :: x5 :: x6 :: x7 :: x8 :: x9 :: x10 :: x11 :: x12 :: x13 :: x14 :: x15 :: x16 :: x17 :: x18 :: x19 :: x20 :: x21 :: x22 :: x23 :: x24 :: x25 :: x26 :: x27 :: x28 :: x29 :: x30 :: x31 :: x32 :: x33 :: x34 :: x35 :: x36 :: x37 :: x38 :: x39 :: x40 :: x41 :: x42 :: l := List.Mem.tail _ (List.Mem.tail _ (List.Mem.tail _ (List.Mem.tail _ (List.Mem.tail _ (List.Mem.tail _ (List.Mem.tail _ (List.Mem.tail _ (List.Mem.tail _ (List.Mem.tail _ (List.Mem.tail _ (List.Mem.tail _ (List.Mem.tail _ (List.Mem.tail _ (List.Mem.tail _ (List.Mem.tail _ (List.Mem.tail _ (List.Mem.tail _ (List.Mem.tail _ (List.Mem.tail _ (List.Mem.tail _ (List.Mem.tail _ (List.Mem.tail _ (List.Mem.tail _ (List.Mem.tail _ (List.Mem.tail _ (List.Mem.tail _ (List.Mem.tail _ (List.Mem.tail _ (List.Mem.tail _ (List.Mem.tail _ (List.Mem.tail _ (List.Mem.tail _ (List.Mem.tail _ (List.Mem.tail _ (List.Mem.tail _ (List.Mem.tail _ (List.Mem.tail _ (List.Mem.tail _ (List.Mem.tail _ (List.Mem.tail _ (List.Mem.tail _ (List.Mem.head _))))))))))))))))))))))))))))))))))))))))))
theorem ax_m43 {α : Type} {x0 x1 x2 x3 x4 x5 x6 x7 x8 x9 x10 x11 x12 x13 x14 x15 x16 x17 x18 x19 x20 x21 x22 x23 x24 x25 x26 x27 x28 x29 x30 x31 x32 x33 x34 x35 x36 x37 x38 x39 x40 x41 x42 x43 : α} {l : List α} : x43 ∈ x0 :: x1 :: x2 :: x3 :: x4 :: x5 :: x6 :: x7 :: x8 :: x9 :: x10 :: x11 :: x12 :: x13 :: x14 :: x15 :: x16 :: x17 :: x18 :: x19 :: x20 :: x21 :: x22 :: x23 :: x24 :: x25 :: x26 :: x27 :: x28 :: x29 :: x30 :: x31 :: x32 :: x33 :: x34 :: x35 :: x36 :: x37 :: x38 :: x39 :: x40 :: x41 :: x42 :: x43 :: l := List.Mem.tail _ (List.Mem.tail _ (List.Mem.tail _ (List.Mem.tail _ (List.Mem.tail _ (List.Mem.tail _ (List.Mem.tail _ (List.Mem.tail _ (List.Mem.tail _ (List.Mem.tail _ (List.Mem.tail _ (List.Mem.tail _ (List.Mem.tail _ (List.Mem.tail _ (List.Mem.tail _ (List.Mem.tail _ (List.Mem.tail _ (List.Mem.tail _ (List.Mem.tail _ (List.Mem.tail _ (List.Mem.tail _ (List.Mem.tail _ (List.Mem.tail _ (List.Mem.tail _ (List.Mem.tail _ (List.Mem.tail _ (List.Mem.tail _ (List.Mem.tail _ (List.Mem.tail _ (List.Mem.tail _ (List.Mem.tail _ (List.Mem.tail _ (List.Mem.tail _ (List.Mem.tail _ (List.Mem.tail _ (List.Mem.tail _ (List.Mem.tail _ (List.Mem.tail _ (List.Mem.tail _ (List.Mem.tail _ (List.Mem.tail _ (List.Mem.tail _ (List.Mem.tail _ (List.Mem.head _)))))))))))))))))))))))))))))))))))))))))))
theorem ax_m44 {α : Type} {x0 x1 x2 x3 x4 x5 x6 x7 x8 x9 x10 x11 x12 x13 x14 x15 x16 x17 x18 x19 x20 x21 x22 x23 x24 x25 x26 x27 x28 x29 x30 x31 x32 x33 x34 x35 x36 x37 x38 x39 x40 x41 x42 x43 x44 : α} {l : List α} : x44 ∈ x0 :: x1 :: x2 :: x3 :: x4 :: x5 :: x6 :: x7 :: x8 :: x9 :: x10 :: x11 :: x12 :: x13 :: x14 :: x15 :: x16 :: x17 :: x18 :: x19 :: x20 :: x21 :: x22 :: x23 :: x24 :: x25 :: x26 :: x27 :: x28 :: x29 :: x30 :: x31 :: x32 :: x33 :: x34 :: x35 :: x36 :: x37 :: x38 :: x39 :: x40 :: x41 :: x42 :: x43 :: x44 :: l := List.Mem.tail _ (List.Mem.tail _ (List.Mem.tail _ (List.Mem.tail _ (List.Mem.tail _ (List.Mem.tail _ (List.Mem.tail _ (List.Mem.tail _ (List.Mem.tail _ (List.Mem.tail _ (List.Mem.tail _ (List.Mem.tail _ (List.Mem.tail _ (List.Mem.tail _ (List.Mem.tail _ (List.Mem.tail _ (List.Mem.tail _ (List.Mem.tail _ (List.Mem.tail _ (List.Mem.tail _ (List.Mem.tail _ (List.Mem.tail _ (List.Mem.tail _ (List.Mem.tail _ (List.Mem.tail _ (List.Mem.tail _ (List.Mem.tail _ (List.Mem.tail _ (List.Mem.tail _ (List.Mem.tail _ (List.Mem.tail _ (List.Mem.tail _ (List.Mem.tail _ (List.Mem.tail _ (List.Mem.tail _ (List.Mem.tail _ (List.Mem.tail _ (List.Mem.tail _ (List.Mem.tail _ (List.Mem.tail _ (List.Mem.tail _ (List.Mem.tail _ (List.Mem.tail _ (List.Mem.tail _ (List.Mem.head _))))))))))))))))))))))))))))))))))))))))))))
theorem ax_m45 {α : Type} {x0 x1 x2 x3 x4 x5 x6 x7 x8 x9 x10 x11 x12 x13 x14 x15 x16 x17 x18 x19 x20 x21 x22 x23 x24 x25 x26 x27 x28 x29 x30 x31 x32 x33 x34 x35 x36 x37 x38 x39 x40 x41 x42 x43 x44 x45 : α} {l : List α} : x45 ∈ x0 :: x1 :: x2 :: x3 :: x4 :: x5 :: x6 :: x7 :: x8 :: x9 :: x10 :: x11 :: x12 :: x13 :: x14 :: x15 :: x16 :: x17 :: x18 :: x19 :: x20 :: x21 :: x22 :: x23 :: x24 :: x25 :: x26 :: x27 :: x28 :: x29 :: x30 :: x31 :: x32 :: x33 :: x34 :: x35 :: x36 :: x37 :: x38 :: x39 :: x40 :: x41 :: x42 :: x43 :: x44 :: x45 :: l := List.Mem.tail _ (List.Mem.tail _ (List.Mem.tail _ (List.Mem.tail _ (List.Mem.tail _ (List.Mem.tail _ (List.Mem.tail _ (List.Mem.tail _ (List.Mem.tail _ (List.Mem.tail _ (List.Mem.tail _ (List.Mem.tail _ (List.Mem.tail _ (List.Mem.tail _ (List.Mem.tail _ (List.Mem.tail _ (List.Mem.tail _ (List.Mem.tail _ (List.Mem.tail _ (List.Mem.tail _ (List.Mem.tail _ (List.Mem.tail _ (List.Mem.tail _ (List.Mem.tail _ (List.Mem.tail _ (List.Mem.tail _ (List.Mem.tail _ (List.Mem.tail _ (List.Mem.tail _ (List.Mem.tail _ (List.Mem.tail _ (List.Mem.tail _ (List.Mem.tail _ (List.Mem.tail _ (List.Mem.tail _ (List.Mem.tail _ (List.Mem.tail _ (List.Mem.tail _ (List.Mem.tail _ (List.Mem.tail _ (List.Mem.tail _ (List.Mem.tail _ (List.Mem.tail _ (List.Mem.tail _ (List.Mem.tail _ (List.Mem.head _)))))))))))))))))))))))))))))))))))))))))))))
theorem ax_m46 {α : Type} {x0 x1 x2 x3 x4 x5 x6 x7 x8 x9 x10 x11 x12 x13 x14 x15 x16 x17 x18 x19 x20 x21 x22 x23 x24 x25 x26 x27 x28 x29 x30 x31 x32 x33 x34 x35 x36 x37 x38 x39 x40 x41 x42 x43 x44 x45 x46 : α} {l : List α} : x46 ∈ x0 :: x1 :: x2 :: x3 :: x4 :: x5 :: x6 :: x7 :: x8 :: x9 :: x10 :: x11 :: x12 :: x13 :: x14 :: x15 :: x16 :: x17 :: x18 :: x19 :: x20 :: x21 :: x22 :: x23 :: x24 :: x25 :: x26 :: x27 :: x28 :: x29 :: x30 :: x31 :: x32 :: x33 :: x34 :: x35 :: x36 :: x37 :: x38 :: x39 :: x40 :: x41 :: x42 :: x43 :: x44 :: x45 :: x46 :: l := List.Mem.tail _ (List.Mem.tail _ (List.Mem.tail _ (List.Mem.tail _ (List.Mem.tail _ (List.Mem.tail _ (List.Mem.tail _ (List.Mem.tail _ (List.Mem.tail _ (List.Mem.tail _ (List.Mem.tail _ (List.Mem.tail _ (List.Mem.tail _ (List.Mem.tail _ (List.Mem.tail _ (List.Mem.tail _ (List.Mem.tail _ (List.Mem.tail _ (List.Mem.tail _ (List.Mem.tail _ (List.Mem.tail _ (List.Mem.tail _ (List.Mem.tail _ (List.Mem.tail _ (List.Mem.tail _ (List.Mem.tail _ (List.Mem.tail _ (List.Mem.tail _ (List.Mem.tail _ (List.Mem.tail _ (List.Mem.tail _ (List.Mem.tail _ (List.Mem.tail _ (List.Mem.tail _ (List.Mem.tail _ (List.Mem.tail _ (List.Mem.tail _ (List.Mem.tail _ (List.Mem.tail _ (List.Mem.tail _ (List.Mem.tail _ (List.Mem.tail _ (List.Mem.tail _ (List.Mem.tail _ (List.Mem.tail _ (List.Mem.tail _ (List.Mem.head _))))))))))))))))))))))))))))))))))))))))))))))
theorem ax_m47 {α : Type} {x0 x1 x2 x3 x4 x5 x6 x7 x8 x9 x10 x11 x12 x13 x14 x15 x16 x17 x18 x19 x20 x21 x22 x23 x24 x25 x26 x27 x28 x29 x30 x31 x32 x33 x34 x35 x36 x37 x38 x39 x40 x41 x42 x43 x44 x45 x46 x47 : α} {l : List α} : x47 ∈ x0 :: x1 :: x2 :: x3 :: x4 :: x5 :: x6 :: x7 :: x8 :: x9 :: x10 :: x11 :: x12 :: x13 :: x14 :: x15 :: x16 :: x17 :: x18 :: x19 :: x20 :: x21 :: x22 :: x23 :: x24 :: x25 :: x26 :: x27 :: x28 :: x29 :: x30 :: x31 :: x32 :: x33 :: x34 :: x35 :: x36 :: x37 :: x38 :: x39 :: x40 :: x41 :: x42 :: x43 :: x44 :: x45 :: x46 :: x47 :: l := List.Mem.tail _ (List.Mem.tail _ (List.Mem.tail _ (List.Mem.tail _ (List.Mem.tail _ (List.Mem.tail _ (List.Mem.tail _ (List.Mem.tail _ (List.Mem.tail _ (List.Mem.tail _ (List.Mem.tail _ (List.Mem.tail _ (List.Mem.tail _ (List.Mem.tail _ (List.Mem.tail _ (List.Mem.tail _ (List.Mem.tail _ (List.Mem.tail _ (List.Mem.tail _ (List.Mem.tail _ (List.Mem.tail _ (List.Mem.tail _ (List.Mem.tail _ (List.Mem.tail _ (List.Mem.tail _ (List.Mem.tail _ (List.Mem.tail _ (List.Mem.tail _ (List.Mem.tail _ (List.Mem.tail _ (List.Mem.tail _ (List.Mem.tail _ (List.Mem.tail _ (List.Mem.tail _ (List.Mem.tail _ (List.Mem.tail _ (List.Mem.tail _ (List.Mem.tail _ (List.Mem.tail _ (List.Mem.tail _ (List.Mem.tail _ (List.Mem.tail _ (List.Mem.tail _ (List.Mem.tail _ (List.Mem.tail _ (List.Mem.tail _ (List.Mem.tail _ (List.Mem.head _)))))))))))))))))))))))))))))))))))))))))))))))
theorem ax_vlq {ρ : Nat → Nat} {v q : Nat} (h : Nat.beq (v % 4) 3 = false) (e : v / 4 - 2 = q) : ax_vl ρ v / 4 - 2 = q := by rw [ax_vl_c (Nat.ne_of_beq_eq_false h)]; exact e
theorem ax_vlj {ρ : Nat → Nat} {v q : Nat} (h : Nat.beq (v % 4) 3 = false) (e : v / 4 = q) : ax_vl ρ v / 4 = q := by rw [ax_vl_c (Nat.ne_of_beq_eq_false h)]; exact e
end
section
/-! fx: what a run that ends has done, told of a heap that is a function. A value: its tag (0 int, 1 long, 2 reference, 3: nothing is known), its number. -/
abbrev fx_V : Type := Nat × Nat
abbrev fx_F : Type := Nat → Nat → Nat
noncomputable def fx_d (v : Nat) : fx_V := (v % 4, v / 4)
noncomputable def fx_wv (v : Nat) : Prop := v % 4 ≠ 3 ∧ (v % 4 = 0 → v / 4 < 4294967296)
noncomputable def fx_ws (l : List Nat) : Prop := ∀ v ∈ l, fx_wv v
noncomputable def fx_L (lv : List fx_V) (lc : List Nat) : Prop := lv.length = lc.length ∧ ∀ (i : Nat) (u : fx_V) (v : Nat), lv[i]? = some u → lc[i]? = some v → u.1 = 3 ∨ u = fx_d v
noncomputable def fx_hp (hp : rx_H) : fx_F := fun p i => bif Nat.ble 2 p then (match rx_hg hp (p - 2) with | some z => (z.2.2[i]?.getD 0) / 4 | none => 0) else 0
/-- the tag of what lies in a cell of kind k at i -/
noncomputable def fx_tg (FK : List (List Nat)) (k i : Nat) : Nat := bif Nat.blt k 12 then (match rx_nth FK k with
  | some ks => (match rx_nth ks i with
    | some x => bif Nat.beq x 2 then 2 else 0
    | none => 0)
  | none => 0) else bif Nat.beq k 14 then 1 else bif Nat.beq k 16 then 2 else 0
/-- a field that is never written: 1 what is known by the place itself, 2 by its kind -/
noncomputable def fx_fz (FZ : List (List (Nat × Nat))) (k b : Nat) : Nat × Nat := match rx_nth FZ k with
  | some l => (match rx_nth l b with
    | some z => z
    | none => (0, 0))
  | none => (0, 0)
noncomputable def fx_ft (FK : List (List Nat)) (FZ : List (List (Nat × Nat))) (q k i v : Nat) : Prop := fx_wv v ∧ v % 4 = fx_tg FK k i ∧ ((fx_fz FZ k i).1 = 1 → v = 4 * (q + 2 + (fx_fz FZ k i).2) + 2) ∧ ((fx_fz FZ k i).1 = 2 → v = 4 * (fx_fz FZ k i).2 + 2)
noncomputable def fx_H (w : ax_W) (FK : List (List Nat)) (FZ : List (List (Nat × Nat))) (hp : rx_H) : Prop := hp.1 ≤ 256 ∧ ∀ (q k n : Nat) (f : List Nat), rx_hg hp q = some (k, n, f) → f.length = n ∧ (∃ (g : Nat) (l : List (Nat × ax_Y)), w.1[q]? = some g ∧ w.2.1[g]? = some (k, n, l)) ∧ ∀ i v : Nat, f[i]? = some v → fx_ft FK FZ q k i v
noncomputable def fu (F : fx_F) (p i v : Nat) : fx_F := fun q j => bif Nat.beq q p && Nat.beq j i then v else F q j
noncomputable def fcp (F : fx_F) (s d : Nat) : fx_F := fun q j => bif Nat.beq q d then F s j else F q j
-- arithmetic
noncomputable def i_add (x y : Nat) : Nat := Classical.choose (⟨Nat.mod (Nat.add x y) 4294967296, rfl⟩ : ∃ z : Nat, z = Nat.mod (Nat.add x y) 4294967296)
theorem i_add_eq (x y : Nat) : i_add x y = Nat.mod (Nat.add x y) 4294967296 := Classical.choose_spec (⟨Nat.mod (Nat.add x y) 4294967296, rfl⟩ : ∃ z : Nat, z = Nat.mod (Nat.add x y) 4294967296)
noncomputable def i_sub (x y : Nat) : Nat := Classical.choose (⟨Nat.mod (Nat.add x (Nat.sub 4294967296 (Nat.mod y 4294967296))) 4294967296, rfl⟩ : ∃ z : Nat, z = Nat.mod (Nat.add x (Nat.sub 4294967296 (Nat.mod y 4294967296))) 4294967296)
theorem i_sub_eq (x y : Nat) : i_sub x y = Nat.mod (Nat.add x (Nat.sub 4294967296 (Nat.mod y 4294967296))) 4294967296 := Classical.choose_spec (⟨Nat.mod (Nat.add x (Nat.sub 4294967296 (Nat.mod y 4294967296))) 4294967296, rfl⟩ : ∃ z : Nat, z = Nat.mod (Nat.add x (Nat.sub 4294967296 (Nat.mod y 4294967296))) 4294967296)
noncomputable def i_mul (x y : Nat) : Nat := Classical.choose (⟨Nat.mod (Nat.mul x y) 4294967296, rfl⟩ : ∃ z : Nat, z = Nat.mod (Nat.mul x y) 4294967296)
theorem i_mul_eq (x y : Nat) : i_mul x y = Nat.mod (Nat.mul x y) 4294967296 := Classical.choose_spec (⟨Nat.mod (Nat.mul x y) 4294967296, rfl⟩ : ∃ z : Nat, z = Nat.mod (Nat.mul x y) 4294967296)
noncomputable def i_and (x y : Nat) : Nat := Classical.choose (⟨Nat.mod (Nat.land x y) 4294967296, rfl⟩ : ∃ z : Nat, z = Nat.mod (Nat.land x y) 4294967296)
theorem i_and_eq (x y : Nat) : i_and x y = Nat.mod (Nat.land x y) 4294967296 := Classical.choose_spec (⟨Nat.mod (Nat.land x y) 4294967296, rfl⟩ : ∃ z : Nat, z = Nat.mod (Nat.land x y) 4294967296)
noncomputable def i_or (x y : Nat) : Nat := Classical.choose (⟨Nat.mod (Nat.lor x y) 4294967296, rfl⟩ : ∃ z : Nat, z = Nat.mod (Nat.lor x y) 4294967296)
theorem i_or_eq (x y : Nat) : i_or x y = Nat.mod (Nat.lor x y) 4294967296 := Classical.choose_spec (⟨Nat.mod (Nat.lor x y) 4294967296, rfl⟩ : ∃ z : Nat, z = Nat.mod (Nat.lor x y) 4294967296)
noncomputable def i_xor (x y : Nat) : Nat := Classical.choose (⟨Nat.mod (Nat.xor x y) 4294967296, rfl⟩ : ∃ z : Nat, z = Nat.mod (Nat.xor x y) 4294967296)
theorem i_xor_eq (x y : Nat) : i_xor x y = Nat.mod (Nat.xor x y) 4294967296 := Classical.choose_spec (⟨Nat.mod (Nat.xor x y) 4294967296, rfl⟩ : ∃ z : Nat, z = Nat.mod (Nat.xor x y) 4294967296)
noncomputable def i_shl (x y : Nat) : Nat := Classical.choose (⟨Nat.mod (Nat.mul x (Nat.pow 2 (Nat.mod y 32))) 4294967296, rfl⟩ : ∃ z : Nat, z = Nat.mod (Nat.mul x (Nat.pow 2 (Nat.mod y 32))) 4294967296)
theorem i_shl_eq (x y : Nat) : i_shl x y = Nat.mod (Nat.mul x (Nat.pow 2 (Nat.mod y 32))) 4294967296 := Classical.choose_spec (⟨Nat.mod (Nat.mul x (Nat.pow 2 (Nat.mod y 32))) 4294967296, rfl⟩ : ∃ z : Nat, z = Nat.mod (Nat.mul x (Nat.pow 2 (Nat.mod y 32))) 4294967296)
noncomputable def i_shr (x y : Nat) : Nat := Classical.choose (⟨rx_i32 (Int32.ofNat x >>> (Int32.ofNat y &&& 31)), rfl⟩ : ∃ z : Nat, z = rx_i32 (Int32.ofNat x >>> (Int32.ofNat y &&& 31)))
theorem i_shr_eq (x y : Nat) : i_shr x y = rx_i32 (Int32.ofNat x >>> (Int32.ofNat y &&& 31)) := Classical.choose_spec (⟨rx_i32 (Int32.ofNat x >>> (Int32.ofNat y &&& 31)), rfl⟩ : ∃ z : Nat, z = rx_i32 (Int32.ofNat x >>> (Int32.ofNat y &&& 31)))
noncomputable def i_ushr (x y : Nat) : Nat := Classical.choose (⟨Nat.div (Nat.mod x 4294967296) (Nat.pow 2 (Nat.mod y 32)), rfl⟩ : ∃ z : Nat, z = Nat.div (Nat.mod x 4294967296) (Nat.pow 2 (Nat.mod y 32)))
theorem i_ushr_eq (x y : Nat) : i_ushr x y = Nat.div (Nat.mod x 4294967296) (Nat.pow 2 (Nat.mod y 32)) := Classical.choose_spec (⟨Nat.div (Nat.mod x 4294967296) (Nat.pow 2 (Nat.mod y 32)), rfl⟩ : ∃ z : Nat, z = Nat.div (Nat.mod x 4294967296) (Nat.pow 2 (Nat.mod y 32)))
noncomputable def i_div (x y : Nat) : Nat := Classical.choose (⟨rx_i32 (Int32.ofNat x / Int32.ofNat y), rfl⟩ : ∃ z : Nat, z = rx_i32 (Int32.ofNat x / Int32.ofNat y))
theorem i_div_eq (x y : Nat) : i_div x y = rx_i32 (Int32.ofNat x / Int32.ofNat y) := Classical.choose_spec (⟨rx_i32 (Int32.ofNat x / Int32.ofNat y), rfl⟩ : ∃ z : Nat, z = rx_i32 (Int32.ofNat x / Int32.ofNat y))
noncomputable def i_rem (x y : Nat) : Nat := Classical.choose (⟨rx_i32 (Int32.ofNat x - Int32.ofNat x / Int32.ofNat y * Int32.ofNat y), rfl⟩ : ∃ z : Nat, z = rx_i32 (Int32.ofNat x - Int32.ofNat x / Int32.ofNat y * Int32.ofNat y))
theorem i_rem_eq (x y : Nat) : i_rem x y = rx_i32 (Int32.ofNat x - Int32.ofNat x / Int32.ofNat y * Int32.ofNat y) := Classical.choose_spec (⟨rx_i32 (Int32.ofNat x - Int32.ofNat x / Int32.ofNat y * Int32.ofNat y), rfl⟩ : ∃ z : Nat, z = rx_i32 (Int32.ofNat x - Int32.ofNat x / Int32.ofNat y * Int32.ofNat y))
noncomputable def i_neg (x : Nat) : Nat := Classical.choose (⟨rx_f_neg x, rfl⟩ : ∃ z : Nat, z = rx_f_neg x)
theorem i_neg_eq (x : Nat) : i_neg x = rx_f_neg x := Classical.choose_spec (⟨rx_f_neg x, rfl⟩ : ∃ z : Nat, z = rx_f_neg x)
noncomputable def i_2b (x : Nat) : Nat := Classical.choose (⟨rx_f_i2b x, rfl⟩ : ∃ z : Nat, z = rx_f_i2b x)
theorem i_2b_eq (x : Nat) : i_2b x = rx_f_i2b x := Classical.choose_spec (⟨rx_f_i2b x, rfl⟩ : ∃ z : Nat, z = rx_f_i2b x)
noncomputable def i_max (x y : Nat) : Nat := Classical.choose (⟨bif Nat.blt (rx_bi x) (rx_bi y) then y else x, rfl⟩ : ∃ z : Nat, z = bif Nat.blt (rx_bi x) (rx_bi y) then y else x)
theorem i_max_eq (x y : Nat) : i_max x y = bif Nat.blt (rx_bi x) (rx_bi y) then y else x := Classical.choose_spec (⟨bif Nat.blt (rx_bi x) (rx_bi y) then y else x, rfl⟩ : ∃ z : Nat, z = bif Nat.blt (rx_bi x) (rx_bi y) then y else x)
noncomputable def i_min (x y : Nat) : Nat := Classical.choose (⟨bif Nat.blt (rx_bi y) (rx_bi x) then y else x, rfl⟩ : ∃ z : Nat, z = bif Nat.blt (rx_bi y) (rx_bi x) then y else x)
theorem i_min_eq (x y : Nat) : i_min x y = bif Nat.blt (rx_bi y) (rx_bi x) then y else x := Classical.choose_spec (⟨bif Nat.blt (rx_bi y) (rx_bi x) then y else x, rfl⟩ : ∃ z : Nat, z = bif Nat.blt (rx_bi y) (rx_bi x) then y else x)
noncomputable def s_lt (x y : Nat) : Prop := Classical.choose (⟨rx_bi x < rx_bi y, rfl⟩ : ∃ z : Prop, z = (rx_bi x < rx_bi y))
theorem s_lt_eq (x y : Nat) : s_lt x y = (rx_bi x < rx_bi y) := Classical.choose_spec (⟨rx_bi x < rx_bi y, rfl⟩ : ∃ z : Prop, z = (rx_bi x < rx_bi y))
noncomputable def s_le (x y : Nat) : Prop := Classical.choose (⟨rx_bi x ≤ rx_bi y, rfl⟩ : ∃ z : Prop, z = (rx_bi x ≤ rx_bi y))
theorem s_le_eq (x y : Nat) : s_le x y = (rx_bi x ≤ rx_bi y) := Classical.choose_spec (⟨rx_bi x ≤ rx_bi y, rfl⟩ : ∃ z : Prop, z = (rx_bi x ≤ rx_bi y))
noncomputable def fx_b (o x y : Nat) : Nat := bif Nat.beq o 0 then i_add x y else bif Nat.beq o 1 then i_sub x y else bif Nat.beq o 2 then i_mul x y else bif Nat.beq o 3 then i_and x y else bif Nat.beq o 4 then i_or x y else bif Nat.beq o 5 then i_xor x y else bif Nat.beq o 6 then i_shl x y else bif Nat.beq o 7 then i_shr x y else bif Nat.beq o 8 then i_ushr x y else bif Nat.beq o 9 then i_div x y else i_rem x y
noncomputable def fx_bp (o : Nat) (k : Nat → Prop) (x y : Nat) : Prop := bif Nat.beq o 0 then k (i_add x y) else bif Nat.beq o 1 then k (i_sub x y) else bif Nat.beq o 2 then k (i_mul x y) else bif Nat.beq o 3 then k (i_and x y) else bif Nat.beq o 4 then k (i_or x y) else bif Nat.beq o 5 then k (i_xor x y) else bif Nat.beq o 6 then k (i_shl x y) else bif Nat.beq o 7 then k (i_shr x y) else bif Nat.beq o 8 then k (i_ushr x y) else bif Nat.beq o 9 then k (i_div x y) else k (i_rem x y)
noncomputable def fx_j (o x y : Nat) : Nat := bif Nat.beq o 0 then rx_j_add x y else bif Nat.beq o 1 then rx_j_sub x y else bif Nat.beq o 2 then rx_j_mul x y else bif Nat.beq o 3 then rx_j_and x y else bif Nat.beq o 4 then rx_j_or x y else rx_j_xor x y
noncomputable def fx_c (k x y : Nat) : Prop := bif Nat.beq k 0 then x = y else bif Nat.beq k 1 then x ≠ y else bif Nat.beq k 2 then s_lt x y else bif Nat.beq k 3 then s_le y x else bif Nat.beq k 4 then s_lt y x else s_le x y
noncomputable def fx_low (lv : List fx_V) (i : Nat) : List fx_V := Nat.casesOn i lv (fun j => match rx_nth lv j with
  | some v => bif Nat.beq v.1 1 then rx_upd lv j (3, 0) else lv
  | none => lv)
noncomputable def fx_put (lv : List fx_V) (i : Nat) (v : fx_V) : List fx_V := rx_upd (fx_low lv i) i v
/-- the value of a field -/
noncomputable def fx_gv (FK : List (List Nat)) (z : Nat × Nat) (na nb p : Nat) (F : fx_F) : fx_V := bif Nat.beq z.1 1 then (2, Nat.add p z.2) else bif Nat.beq z.1 2 then (2, z.2) else (fx_tg FK na nb, F p nb)
noncomputable def fx_len (w : ax_W) (p : Nat) : Nat := match rx_nth w.1 (Nat.sub p 2) with
  | some g => (match rx_nth w.2.1 g with
    | some z => z.2.1
    | none => 0)
  | none => 0
abbrev fx_N : Type := Nat → List fx_V → List fx_V → fx_F → Prop
noncomputable def fx_sw (D : Nat → Prop) (x : Nat) (tg : List Nat) : Nat → Prop := List.rec (motive := fun _ => Nat → Prop) (fun _ => True) (fun t _ ih j => (x = j → D t) ∧ ih (Nat.succ j)) tg
noncomputable def fx_spl (n : Nat) : List fx_V → List fx_V → Option (List fx_V × List fx_V) := Nat.rec (motive := fun _ => List fx_V → List fx_V → Option (List fx_V × List fx_V)) (fun st acc => some (acc, st)) (fun _ ih st acc => match st with
  | v :: st' => ih st' (v :: acc)
  | [] => none) n
/-- the locals of a method that begins -/
noncomputable def fx_args (as : List fx_V) : Nat → List fx_V := List.rec (motive := fun _ => Nat → List fx_V) (fun n => List.replicate n (3, 0)) (fun v _ ih n => bif Nat.beq v.1 1 then v :: (3, 0) :: ih (n - 2) else v :: ih (n - 1)) as
noncomputable def fx_s1 (NX : fx_N) (pc o i j na : Nat) (lv st : List fx_V) (F : fx_F) : Prop :=
  bif Nat.ble o 3 then (match rx_nth lv i with
    | some v => bif Nat.beq v.1 (bif Nat.beq o 1 then 0 else bif Nat.beq o 2 then 2 else 1) then NX (Nat.add pc j) lv (v :: st) F else True
    | none => True)
  else bif Nat.ble o 5 then (match st with
    | v :: st' => NX (Nat.add pc j) (fx_put lv i v) st' F
    | [] => True)
  else bif Nat.beq o 6 then (match st with
    | v :: st' => NX (Nat.add pc j) (rx_upd (fx_put lv i v) (Nat.succ i) (3, 0)) st' F
    | [] => True)
  else bif Nat.beq o 7 then NX (Nat.add pc j) lv ((bif Nat.beq i 0 then (0, na) else (Nat.mod na 4, Nat.div na 4)) :: st) F
  else bif Nat.beq o 8 then NX (Nat.add pc j) lv ((1, na) :: st) F
  else bif Nat.beq o 9 then (match rx_nth lv i with
    | some v => bif Nat.beq v.1 0 then NX (Nat.add pc 3) (fx_put lv i (0, i_add v.2 na)) st F else True
    | none => True)
  else (match st with
    | y :: x :: st' => fx_bp i (fun z => NX (Nat.add pc 1) lv ((0, z) :: st') F) x.2 y.2
    | _ => True)
noncomputable def fx_s2 (NX : fx_N) (pc o i na : Nat) (tg : List Nat) (lv st : List fx_V) (F : fx_F) : Prop :=
  bif Nat.beq o 18 then NX na lv st F
  else (match st with
    | [] => True
    | x :: st1 =>
      bif Nat.beq o 11 then NX (Nat.add pc 1) lv ((0, bif Nat.beq i 0 then i_neg x.2 else i_2b x.2) :: st1) F
      else bif Nat.beq o 15 then NX (Nat.add pc 1) lv (x :: x :: st1) F
      else bif Nat.beq o 16 then NX (Nat.add pc 1) lv st1 F
      else bif Nat.beq o 19 then (fx_c i x.2 0 → NX na lv st1 F) ∧ (fx_c (ax_not i) x.2 0 → NX (Nat.add pc 3) lv st1 F)
      else bif Nat.beq o 21 then ((x.2 < i ∨ Nat.add i (rx_len tg) ≤ x.2) → NX na lv st1 F) ∧ fx_sw (fun t => NX t lv st1 F) x.2 tg i
      else (match st1 with
        | [] => True
        | x2 :: st2 =>
          bif Nat.beq o 12 then NX (Nat.add pc 1) lv ((1, fx_j i x2.2 x.2) :: st2) F
          else bif Nat.beq o 13 then NX (Nat.add pc 1) lv ((1, bif Nat.beq i 0 then rx_j_shl x2.2 x.2 else rx_j_shr x2.2 x.2) :: st2) F
          else bif Nat.beq o 14 then NX (Nat.add pc 1) lv ((0, rx_f_lcmp x2.2 x.2) :: st2) F
          else bif Nat.beq o 17 then NX (Nat.add pc 1) lv (x :: x2 :: x :: x2 :: st2) F
          else (fx_c i x2.2 x.2 → NX na lv st2 F) ∧ (fx_c (ax_not i) x2.2 x.2 → NX (Nat.add pc 3) lv st2 F)))
noncomputable def fx_s3 (w : ax_W) (FK : List (List Nat)) (FZ : List (List (Nat × Nat))) (NX : fx_N) (pc o i na nb : Nat) (lv st : List fx_V) (F : fx_F) : Prop := match st with
  | [] => True
  | x :: st1 =>
    bif Nat.beq o 22 then NX (Nat.add pc 3) lv (fx_gv FK (fx_fz FZ na nb) na nb x.2 F :: st1) F
    else bif Nat.beq o 24 && Nat.beq i 0 then NX (Nat.add pc 1) lv ((0, fx_len w x.2) :: st1) F
    else (match st1 with
      | [] => True
      | x2 :: st2 =>
        bif Nat.beq o 23 then NX (Nat.add pc 3) lv st2 (fu F x2.2 nb x.2)
        else bif Nat.beq o 24 then NX (Nat.add pc 1) lv ((bif Nat.beq i 14 then 1 else bif Nat.beq i 16 then 2 else 0, F x2.2 x.2) :: st2) F
        else (match st2 with
          | [] => True
          | x3 :: st3 => NX (Nat.add pc 1) lv st3 (fu F x3.2 x2.2 x.2)))
noncomputable def fx_go1 (w : ax_W) (FK : List (List Nat)) (FZ : List (List (Nat × Nat))) (NX : fx_N) (x : ax_I) (pc : Nat) (lv st : List fx_V) (F : fx_F) : Prop :=
  bif Nat.ble x.2.1 10 then fx_s1 NX pc x.2.1 x.2.2.1 x.2.2.2.1 x.2.2.2.2.1 lv st F else bif Nat.ble x.2.1 21 then fx_s2 NX pc x.2.1 x.2.2.1 x.2.2.2.2.1 x.2.2.2.2.2.2 lv st F else fx_s3 w FK FZ NX pc x.2.1 x.2.2.1 x.2.2.2.2.1 x.2.2.2.2.2.1 lv st F
abbrev fx_C : Type := Nat → List fx_V → fx_F → fx_V → fx_F → Prop
noncomputable def fx_cl2 (NX : fx_N) (C : fx_C) (na rk pc : Nat) (lv : List fx_V) (F : fx_F) (q : Option (List fx_V × List fx_V)) : Prop := match q with
  | some (as, rest) => (bif Nat.beq rk 0 then ∃ F' : fx_F, C na as F (2, 0) F' ∧ NX (Nat.add pc 3) lv rest F' else ∃ (n : Nat) (F' : fx_F), C na as F (bif Nat.beq rk 3 then 1 else bif Nat.beq rk 4 then 2 else 0, n) F' ∧ NX (Nat.add pc 3) lv ((bif Nat.beq rk 3 then 1 else bif Nat.beq rk 4 then 2 else 0, n) :: rest) F')
  | none => True
/-- a word's length, a letter: some int -/
noncomputable def fx_str (NX : fx_N) (nb pc : Nat) (lv st : List fx_V) (F : fx_F) : Prop := match st with
  | [] => True
  | _ :: st1 => bif Nat.beq nb 13 then ∃ n : Nat, NX (Nat.add pc 3) lv ((0, n) :: st1) F else (match st1 with
    | [] => True
    | _ :: st2 => ∃ n : Nat, NX (Nat.add pc 3) lv ((0, n) :: st2) F)
/-- calls and returns -/
noncomputable def fx_go2 (SG : List (Nat × Nat × Nat)) (NX : fx_N) (C : fx_C) (R : fx_V → fx_F → Prop) (x : ax_I) (pc : Nat) (lv st : List fx_V) (F : fx_F) : Prop :=
  bif Nat.ble x.2.1 29 then (match st with
    | [] => R (2, 0) F
    | v :: _ => R v F)
  else bif Nat.beq x.2.2.2.2.2.1 2 then (match st with
    | _ :: _ :: d :: _ :: q :: st' => NX (Nat.add pc 3) lv st' (fcp F q.2 d.2)
    | _ => True)
  else bif Nat.beq x.2.2.2.2.2.1 1 then True
  else bif Nat.beq (Nat.mod x.2.2.2.2.2.1 4) 1 then (bif Nat.beq x.2.1 31 then (match st with
    | y :: z :: st' => NX (Nat.add pc 3) lv ((0, bif Nat.beq x.2.2.2.2.2.1 5 then i_max z.2 y.2 else i_min z.2 y.2) :: st') F
    | _ => True) else fx_str NX x.2.2.2.2.2.1 pc lv st F)
  else (match rx_nth SG x.2.2.2.2.1 with
    | some s => fx_cl2 NX C x.2.2.2.2.1 s.2.1 pc lv F (fx_spl (bif Nat.beq x.2.1 31 then s.1 else Nat.succ s.1) st [])
    | none => True)
noncomputable def fx_go (w : ax_W) (FK : List (List Nat)) (FZ : List (List (Nat × Nat))) (SG : List (Nat × Nat × Nat)) (NX : fx_N) (C : fx_C) (R : fx_V → fx_F → Prop) (x : ax_I) (pc : Nat) (lv st : List fx_V) (F : fx_F) : Prop := bif Nat.ble x.2.1 25 then fx_go1 w FK FZ NX x pc lv st F else fx_go2 SG NX C R x pc lv st F
noncomputable def fx_mask (m : List Nat) (lv : List fx_V) : List fx_V := List.rec (motive := fun _ => List fx_V → List fx_V) (fun lv => lv) (fun b _ ih lv => match lv with
  | [] => []
  | v :: t => (bif Nat.beq b 0 then (3, 0) else v) :: ih t) m lv
noncomputable def fx_hd (hd : List (Nat × List Nat)) (pc : Nat) : Option (List Nat) := List.rec (motive := fun _ => Option (List Nat)) none (fun x _ ih => bif Nat.beq x.1 pc then some x.2 else ih) hd
noncomputable def fx_nx (hd : List (Nat × List Nat)) (G NX : fx_N) (pc : Nat) (lv st : List fx_V) (F : fx_F) : Prop := match fx_hd hd pc with
  | some m => G pc (fx_mask m lv) st F
  | none => NX pc lv st F
/-- k instructions on, or up to the next places told -/
noncomputable def fx_P (w : ax_W) (FK : List (List Nat)) (FZ : List (List (Nat × Nat))) (SG : List (Nat × Nat × Nat)) (cd : List (List ax_I)) (hd : List (Nat × List Nat)) (C : fx_C) (G : fx_N) (R : fx_V → fx_F → Prop) (k : Nat) : fx_N := Nat.rec (motive := fun _ => fx_N) (fun _ _ _ _ => True) (fun _ ih pc lv st F => match ax_lookI cd pc with
  | some x => fx_go w FK FZ SG (fx_nx hd G ih) C R x x.1 lv st F
  | none => True) k
end
section
/-! fx: an instruction's step -/
theorem fx_d_int (n : Nat) : fx_d (rx_int n) = (0, n) := by
  show ((4 * n) % 4, (4 * n) / 4) = (0, n)
  rw [Nat.mul_mod_right, Nat.mul_div_cancel_left n (by decide)]
theorem fx_d_lng (n : Nat) : fx_d (rx_lng n) = (1, n) := by
  show ((4 * n + 1) % 4, (4 * n + 1) / 4) = (1, n)
  have e1 : (4 * n + 1) % 4 = 1 := by omega
  have e2 : (4 * n + 1) / 4 = n := by omega
  rw [e1, e2]
theorem fx_wv_int {n : Nat} (h : n < 4294967296) : fx_wv (rx_int n) := ⟨by show (4 * n) % 4 ≠ 3; omega, fun _ => by show (4 * n) / 4 < _; omega⟩
theorem fx_wv_lng {n : Nat} : fx_wv (rx_lng n) := ⟨by show (4 * n + 1) % 4 ≠ 3; omega, fun z => by have z : (4 * n + 1) % 4 = 0 := z; omega⟩
theorem fx_wv_2 : fx_wv 2 := ⟨by decide, fun z => absurd z (by decide)⟩
theorem fx_ws_cons {v : Nat} {l : List Nat} (hv : fx_wv v) (h : fx_ws l) : fx_ws (v :: l) := by
  intro x hx
  rcases List.mem_cons.mp hx with e | e
  · rw [e]; exact hv
  · exact h x e
theorem fx_ws_hd {v : Nat} {l : List Nat} (h : fx_ws (v :: l)) : fx_wv v := h v List.mem_cons_self
theorem fx_ws_tl {v : Nat} {l : List Nat} (h : fx_ws (v :: l)) : fx_ws l := fun x hx => h x (List.mem_cons_of_mem _ hx)
theorem fx_ws_set {l : List Nat} (h : fx_ws l) {i v : Nat} (hv : fx_wv v) : fx_ws (l.set i v) := by
  intro x hx
  rcases List.mem_or_eq_of_mem_set hx with e | e
  · exact h x e
  · rw [e]; exact hv
theorem fx_ws_low {l : List Nat} (h : fx_ws l) (i : Nat) : fx_ws (rx_low l i) := by
  unfold rx_low
  cases i with
  | zero => exact h
  | succ j =>
    show fx_ws (match rx_nth l j with | some v => bif rx_isJ v then rx_upd l j 2 else l | none => l)
    cases rx_nth l j with
    | none => exact h
    | some v =>
      dsimp only
      cases rx_isJ v with
      | false => exact h
      | true => rw [cond_true, rx_upd_eq]; exact fx_ws_set h fx_wv_2
theorem fx_ws_put {l : List Nat} (h : fx_ws l) {i v : Nat} (hv : fx_wv v) : fx_ws (rx_put l i v) := by
  unfold rx_put
  rw [rx_upd_eq]
  exact fx_ws_set (fx_ws_low h i) hv
theorem fx_L.set {lv : List fx_V} {lc : List Nat} (h : fx_L lv lc) (i : Nat) {u : fx_V} {v : Nat} (huv : u.1 = 3 ∨ u = fx_d v) : fx_L (lv.set i u) (lc.set i v) := by
  refine ⟨by rw [List.length_set, List.length_set]; exact h.1, fun j a b ha hb => ?_⟩
  rw [List.getElem?_set] at ha hb
  by_cases hij : i = j
  · rw [if_pos hij] at ha hb
    by_cases hl : i < lv.length
    · rw [if_pos hl] at ha
      rw [if_pos (by rw [← h.1]; exact hl)] at hb
      cases ha
      cases hb
      exact huv
    · rw [if_neg hl] at ha; cases ha
  · rw [if_neg hij] at ha hb
    exact h.2 j a b ha hb
theorem fx_L.low {lv : List fx_V} {lc : List Nat} (h : fx_L lv lc) (i : Nat) : fx_L (fx_low lv i) (rx_low lc i) := by
  unfold fx_low rx_low
  cases i with
  | zero => exact h
  | succ j =>
    show fx_L (match rx_nth lv j with | some v => bif Nat.beq v.1 1 then rx_upd lv j (3, 0) else lv | none => lv) (match rx_nth lc j with | some v => bif rx_isJ v then rx_upd lc j 2 else lc | none => lc)
    rw [rx_nth_eq, rx_nth_eq, rx_upd_eq, rx_upd_eq]
    cases ha : lv[j]? with
    | none =>
      have hb : lc[j]? = none := by rw [List.getElem?_eq_none_iff] at ha ⊢; rw [← h.1]; exact ha
      rw [hb]
      exact h
    | some u =>
      have hl : j < lc.length := by
        rw [← h.1]
        rcases Nat.lt_or_ge j lv.length with q | q
        · exact q
        · rw [List.getElem?_eq_none_iff.mpr q] at ha; cases ha
      have hb : lc[j]? = some lc[j] := List.getElem?_eq_getElem hl
      rw [hb]
      dsimp only
      rcases h.2 j u _ ha hb with e | e
      · rw [show Nat.beq u.1 1 = false by rw [e]; rfl]
        rw [cond_false]
        cases rx_isJ lc[j] with
        | false => exact h
        | true =>
          rw [cond_true]
          have := h.set j (u := u) (v := 2) (Or.inl e)
          rw [show lv.set j u = lv by
            apply List.ext_getElem?
            intro z
            rw [List.getElem?_set]
            by_cases hz : j = z
            · rw [if_pos hz, if_pos (by rw [h.1]; exact hl), ← hz, ha]
            · rw [if_neg hz]] at this
          exact this
      · rw [e]
        show fx_L (bif Nat.beq (lc[j] % 4) 1 then _ else _) (bif Nat.beq (lc[j] % 4) 1 then _ else _)
        cases Nat.beq (lc[j] % 4) 1 with
        | false => exact h
        | true => exact h.set j (Or.inl rfl)
theorem fx_L.put {lv : List fx_V} {lc : List Nat} (h : fx_L lv lc) (i : Nat) {u : fx_V} {v : Nat} (huv : u.1 = 3 ∨ u = fx_d v) : fx_L (fx_put lv i u) (rx_put lc i v) := by
  unfold fx_put rx_put
  rw [rx_upd_eq, rx_upd_eq]
  exact (h.low i).set i huv
section FXS
variable {w : ax_W} {FZ : List (List (Nat × Nat))} {K : rx_K} {N : rx_N} {pc na nb : Nat} {lc sc : List Nat} {hp : rx_H} {l' : List rx_S}
noncomputable def fx_wf (w : ax_W) (FK : List (List Nat)) (FZ : List (List (Nat × Nat))) (σ : rx_S) : Prop := fx_ws σ.2.1 ∧ fx_ws σ.2.2.1 ∧ fx_H w FK FZ σ.2.2.2.1 ∧ σ.2.2.2.2 = ([], 0, 0)
noncomputable def fx_Nx (σ : rx_S) (NX : fx_N) : Prop := ∀ lv, fx_L lv σ.2.1 → NX σ.1 lv (σ.2.2.1.map fx_d) (fx_hp σ.2.2.2.1)
noncomputable def fx_Re (w : ax_W) (FK : List (List Nat)) (FZ : List (List (Nat × Nat))) (G : fx_N → List fx_V → Prop) (lc : List Nat) (hp : rx_H) (l' : List rx_S) : Prop := ∃ σ, l' = [σ] ∧ fx_wf w FK FZ σ ∧ σ.2.2.2.1.1 = hp.1 ∧ ∀ (NX : fx_N) (lv : List fx_V), fx_L lv lc → fx_Nx σ NX → G NX lv
theorem fx_r1 {FK : List (List Nat)} {pc' : Nat} {st' : List Nat} {G : fx_N → List fx_V → Prop} (hl : fx_ws lc) (hs : fx_ws st') (hH : fx_H w FK FZ hp) (hG : ∀ (NX : fx_N) (lv : List fx_V), NX pc' lv (st'.map fx_d) (fx_hp hp) → G NX lv) : fx_Re w FK FZ G lc hp [(pc', lc, st', hp, [], 0, 0)] :=
  ⟨_, rfl, ⟨hl, hs, hH, rfl⟩, rfl, fun NX lv hL hN => hG NX lv (hN lv hL)⟩
theorem fx_t_ld {FK : List (List Nat)} {ok : Nat → Bool} {i n t : Nat} (ht : t ≠ 3) (hl : fx_ws lc) (hs : fx_ws sc) (hH : fx_H w FK FZ hp) (h : rx_h_ld ok i n K N pc na nb lc sc hp [] 0 0 = some l') : fx_Re w FK FZ (fun NX lv => match rx_nth lv i with
    | some v => bif Nat.beq v.1 t then NX (Nat.add pc n) lv (v :: sc.map fx_d) (fx_hp hp) else True
    | none => True) lc hp l' := by
  unfold rx_h_ld at h
  rw [rx_nth_eq] at h
  cases hv : lc[i]? with
  | none => rw [hv] at h; cases h
  | some v =>
    rw [hv] at h
    obtain ⟨-, h⟩ := rx_cond h
    cases h
    refine ⟨_, rfl, ⟨hl, fx_ws_cons (hl v (List.mem_of_getElem? hv)) hs, hH, rfl⟩, rfl, fun NX lv hL hN => ?_⟩
    dsimp only
    rw [rx_nth_eq]
    cases hu : lv[i]? with
    | none => trivial
    | some u =>
      dsimp only
      cases hb : Nat.beq u.1 t with
      | false => trivial
      | true =>
        rcases hL.2 i u v hu hv with e | e
        · exact absurd ((rx_beq.mp hb).symm.trans e) ht
        · rw [cond_true, e]; exact hN lv hL
theorem fx_t_sto {FK : List (List Nat)} {ok : Nat → Bool} {i n : Nat} (hl : fx_ws lc) (hs : fx_ws sc) (hH : fx_H w FK FZ hp) (h : rx_h_sto ok i n K N pc na nb lc sc hp [] 0 0 = some l') : fx_Re w FK FZ (fun NX lv => match sc.map fx_d with
    | v :: st' => NX (Nat.add pc n) (fx_put lv i v) st' (fx_hp hp)
    | [] => True) lc hp l' := by
  unfold rx_h_sto at h
  match sc, hs, h with
  | [], hs, h => cases h
  | v :: st', hs, h =>
    obtain ⟨-, h⟩ := rx_cond h
    cases h
    exact ⟨_, rfl, ⟨fx_ws_put hl (fx_ws_hd hs), fx_ws_tl hs, hH, rfl⟩, rfl, fun NX lv hL hN => hN _ (hL.put i (Or.inr rfl))⟩
theorem fx_t_stJ {FK : List (List Nat)} {i n : Nat} (hl : fx_ws lc) (hs : fx_ws sc) (hH : fx_H w FK FZ hp) (h : rx_h_stJ i n K N pc na nb lc sc hp [] 0 0 = some l') : fx_Re w FK FZ (fun NX lv => match sc.map fx_d with
    | v :: st' => NX (Nat.add pc n) (rx_upd (fx_put lv i v) (Nat.succ i) (3, 0)) st' (fx_hp hp)
    | [] => True) lc hp l' := by
  unfold rx_h_stJ at h
  match sc, hs, h with
  | [], hs, h => cases h
  | v :: st', hs, h =>
    obtain ⟨-, h⟩ := rx_cond h
    cases h
    have e : rx_putJ lc i v = (rx_put lc i v).set (Nat.succ i) 2 := by unfold rx_putJ rx_put; rw [rx_upd_eq]
    rw [e]
    refine ⟨_, rfl, ⟨fx_ws_set (fx_ws_put hl (fx_ws_hd hs)) fx_wv_2, fx_ws_tl hs, hH, rfl⟩, rfl, fun NX lv hL hN => ?_⟩
    show NX _ (rx_upd (fx_put lv i (fx_d v)) (Nat.succ i) (3, 0)) _ _
    rw [rx_upd_eq]
    exact hN _ ((hL.put i (Or.inr rfl)).set (Nat.succ i) (Or.inl rfl))
theorem fx_t_inc {FK : List (List Nat)} {i : Nat} (hl : fx_ws lc) (hs : fx_ws sc) (hH : fx_H w FK FZ hp) (h : rx_h_inc i K N pc na nb lc sc hp [] 0 0 = some l') : fx_Re w FK FZ (fun NX lv => match rx_nth lv i with
    | some v => bif Nat.beq v.1 0 then NX (Nat.add pc 3) (fx_put lv i (0, i_add v.2 na)) (sc.map fx_d) (fx_hp hp) else True
    | none => True) lc hp l' := by
  unfold rx_h_inc at h
  rw [rx_nth_eq] at h
  cases hv : lc[i]? with
  | none => rw [hv] at h; cases h
  | some v =>
    rw [hv] at h
    obtain ⟨-, h⟩ := rx_cond h
    cases h
    refine ⟨_, rfl, ⟨fx_ws_put hl (fx_wv_int (Nat.mod_lt _ (by decide))), hs, hH, rfl⟩, rfl, fun NX lv hL hN => ?_⟩
    dsimp only
    rw [rx_nth_eq]
    cases hu : lv[i]? with
    | none => trivial
    | some u =>
      dsimp only
      cases hb : Nat.beq u.1 0 with
      | false => trivial
      | true =>
        rcases hL.2 i u v hu hv with e | e
        · exact absurd ((rx_beq.mp hb).symm.trans e) (by decide)
        · rw [cond_true, e]
          exact hN _ (hL.put i (Or.inr (by rw [i_add_eq, fx_d_int]; rfl)))
theorem fx_t_psh {FK : List (List Nat)} {n : Nat} (hna : na < 4294967296) (hl : fx_ws lc) (hs : fx_ws sc) (hH : fx_H w FK FZ hp) (h : rx_h_psh n K N pc na nb lc sc hp [] 0 0 = some l') : fx_Re w FK FZ (fun NX lv => NX (Nat.add pc n) lv ((0, na) :: sc.map fx_d) (fx_hp hp)) lc hp l' := by
  cases h
  refine fx_r1 hl (fx_ws_cons (fx_wv_int hna) hs) hH (fun NX lv h => ?_)
  rw [List.map_cons, fx_d_int] at h
  exact h
theorem fx_t_ldc {FK : List (List Nat)} (hl : fx_ws lc) (hs : fx_ws sc) (hH : fx_H w FK FZ hp) (h : rx_h_ldc K N pc na nb lc sc hp [] 0 0 = some l') : fx_Re w FK FZ (fun NX lv => NX (Nat.add pc 2) lv ((Nat.mod na 4, Nat.div na 4) :: sc.map fx_d) (fx_hp hp)) lc hp l' := by
  unfold rx_h_ldc at h
  obtain ⟨hk, h⟩ := rx_cond h
  cases h
  have hw : fx_wv na := by
    rcases rx_or2.mp hk with hk | hk
    · obtain ⟨h1, h2⟩ := rx_and2.mp hk
      have h1 : na % 4 = 0 := rx_beq.mp h1
      have h2 : na / 4 < 4294967296 := rx_blt.mp h2
      exact ⟨by omega, fun _ => h2⟩
    · obtain ⟨h1, h2⟩ := rx_and2.mp hk
      have h1 : na % 4 = 2 := rx_beq.mp h1
      exact ⟨by omega, fun z => by omega⟩
  exact fx_r1 hl (fx_ws_cons hw hs) hH (fun NX lv h => h)
theorem fx_t_pshJ {FK : List (List Nat)} {n : Nat} (hl : fx_ws lc) (hs : fx_ws sc) (hH : fx_H w FK FZ hp) (h : rx_h_pshJ n K N pc na nb lc sc hp [] 0 0 = some l') : fx_Re w FK FZ (fun NX lv => NX (Nat.add pc n) lv ((1, na) :: sc.map fx_d) (fx_hp hp)) lc hp l' := by
  cases h
  refine fx_r1 hl (fx_ws_cons fx_wv_lng hs) hH (fun NX lv h => ?_)
  rw [List.map_cons, fx_d_lng] at h
  exact h
theorem fx_b_ok {o x y r : Nat} (h : ax_f o x y = some r) : fx_b o x y = r ∧ (x < 4294967296 → r < 4294967296) := by
  have m : ∀ z : Nat, Nat.mod z 4294967296 < 4294967296 := fun z => Nat.mod_lt _ (by decide)
  have i32 : ∀ z : Int32, rx_i32 z < 4294967296 := fun z => z.toBitVec.isLt
  match o, h with
  | 0, h => cases h; exact ⟨i_add_eq x y, fun _ => m _⟩
  | 1, h => cases h; exact ⟨i_sub_eq x y, fun _ => m _⟩
  | 2, h => cases h; exact ⟨i_mul_eq x y, fun _ => m _⟩
  | 3, h => cases h; exact ⟨i_and_eq x y, fun _ => m _⟩
  | 4, h => cases h; exact ⟨i_or_eq x y, fun _ => m _⟩
  | 5, h => cases h; exact ⟨i_xor_eq x y, fun _ => m _⟩
  | 6, h => cases h; exact ⟨i_shl_eq x y, fun _ => m _⟩
  | 7, h => cases h; exact ⟨i_shr_eq x y, fun _ => i32 _⟩
  | 8, h => cases h; exact ⟨i_ushr_eq x y, fun _ => Nat.lt_of_le_of_lt (Nat.div_le_self _ _) (m _)⟩
  | 9, h =>
    replace h : (bif Nat.beq (Nat.mod y 4294967296) 0 then none else some (rx_i32 (Int32.ofNat x / Int32.ofNat y))) = some r := h
    cases hb : Nat.beq (Nat.mod y 4294967296) 0 with
    | true => rw [hb] at h; cases h
    | false => rw [hb] at h; cases h; exact ⟨i_div_eq x y, fun _ => i32 _⟩
  | 10, h =>
    replace h : (bif Nat.beq (Nat.mod y 4294967296) 0 then none else some (rx_i32 (Int32.ofNat x - Int32.ofNat x / Int32.ofNat y * Int32.ofNat y))) = some r := h
    cases hb : Nat.beq (Nat.mod y 4294967296) 0 with
    | true => rw [hb] at h; cases h
    | false => rw [hb] at h; cases h; exact ⟨i_rem_eq x y, fun _ => i32 _⟩
  | (o + 11), h => cases h
theorem fx_bp_ok {o x y : Nat} {k : Nat → Prop} (h : k (fx_b o x y)) : fx_bp o k x y := by
  unfold fx_bp
  unfold fx_b at h
  cases h0 : Nat.beq o 0 with
  | true => rw [h0] at h; exact h
  | false =>
    rw [h0] at h
    cases h1 : Nat.beq o 1 with
    | true => rw [h1] at h; exact h
    | false =>
      rw [h1] at h
      cases h2 : Nat.beq o 2 with
      | true => rw [h2] at h; exact h
      | false =>
        rw [h2] at h
        cases h3 : Nat.beq o 3 with
        | true => rw [h3] at h; exact h
        | false =>
          rw [h3] at h
          cases h4 : Nat.beq o 4 with
          | true => rw [h4] at h; exact h
          | false =>
            rw [h4] at h
            cases h5 : Nat.beq o 5 with
            | true => rw [h5] at h; exact h
            | false =>
              rw [h5] at h
              cases h6 : Nat.beq o 6 with
              | true => rw [h6] at h; exact h
              | false =>
                rw [h6] at h
                cases h7 : Nat.beq o 7 with
                | true => rw [h7] at h; exact h
                | false =>
                  rw [h7] at h
                  cases h8 : Nat.beq o 8 with
                  | true => rw [h8] at h; exact h
                  | false =>
                    rw [h8] at h
                    cases h9 : Nat.beq o 9 with
                    | true => rw [h9] at h; exact h
                    | false => rw [h9] at h; exact h
theorem fx_sml {v : Nat} (h : fx_wv v) : rx_sml [] v = false := by
  unfold rx_sml
  rw [show Nat.beq (rx_tk v) 3 = false from Bool.eq_false_iff.mpr (fun z => h.1 (rx_beq.mp z))]
  rfl
theorem fx_isI {v : Nat} (h : fx_wv v) (hi : rx_isI v = true) : v % 4 = 0 := by
  rcases rx_or2.mp hi with z | z
  · exact rx_beq.mp z
  · exact absurd (rx_beq.mp z) h.1
theorem fx_eint {v : Nat} (h0 : v % 4 = 0) : fx_d v = (0, v / 4) := by
  show (v % 4, v / 4) = _
  rw [h0]
theorem fx_t_bin {FK : List (List Nat)} {i : Nat} {l0 : Option (List rx_S)} (hh : l0 = some l' → ∃ (x y r : Nat) (s' : List Nat), sc = y :: x :: s' ∧ x % 4 = 0 ∧ y % 4 = 0 ∧ ax_f i (x / 4) (y / 4) = some r ∧ l' = [(Nat.add pc 1, lc, rx_int r :: s', hp, [], 0, 0)]) (hl : fx_ws lc) (hs : fx_ws sc) (hH : fx_H w FK FZ hp) (h : l0 = some l') : fx_Re w FK FZ (fun NX lv => match sc.map fx_d with
    | y :: x :: st' => fx_bp i (fun z => NX (Nat.add pc 1) lv ((0, z) :: st') (fx_hp hp)) x.2 y.2
    | _ => True) lc hp l' := by
  obtain ⟨x, y, r, s', rfl, hx, hy, hr, rfl⟩ := hh h
  obtain ⟨e1, e2⟩ := fx_b_ok hr
  have wx := fx_ws_hd (fx_ws_tl hs)
  refine fx_r1 hl (fx_ws_cons (fx_wv_int (e2 (wx.2 hx))) (fx_ws_tl (fx_ws_tl hs))) hH (fun NX lv h => ?_)
  rw [List.map_cons, fx_d_int, ← e1] at h
  exact fx_bp_ok h
theorem fx_ar {f : Nat → Nat → Option Nat} {g : Nat → Nat × Nat} (hs : fx_ws sc) (h : rx_h_ar f g K N pc na nb lc sc hp [] 0 0 = some l') : ∃ (x y r : Nat) (s' : List Nat), sc = y :: x :: s' ∧ x % 4 = 0 ∧ y % 4 = 0 ∧ f (x / 4) (y / 4) = some r ∧ l' = [(Nat.add pc 1, lc, rx_int r :: s', hp, [], 0, 0)] := by
  unfold rx_h_ar at h
  match sc, hs, h with
  | [], hs, h => cases h
  | [_], hs, h => cases h
  | y :: x :: s', hs, h =>
    dsimp only at h
    rw [ax_kn, ax_kn] at h
    have wy := fx_ws_hd hs
    have wx := fx_ws_hd (fx_ws_tl hs)
    rcases ax_condY h with ⟨hb, h⟩ | ⟨hb, h⟩
    · obtain ⟨b1, b2⟩ := rx_and2.mp hb
      cases hr : f (rx_pl x) (rx_pl y) with
      | none => rw [hr] at h; cases h
      | some r => rw [hr] at h; cases h; exact ⟨x, y, r, s', rfl, rx_beq.mp b1, rx_beq.mp b2, hr, rfl⟩
    · rw [fx_sml wy, fx_sml wx] at h
      dsimp only [cond_false] at h
      obtain ⟨hi, -⟩ := rx_cond h
      obtain ⟨i1, i2⟩ := rx_and2.mp hi
      rw [show Nat.beq (rx_tk x) 0 = true from rx_beq.mpr (fx_isI wx i1), show Nat.beq (rx_tk y) 0 = true from rx_beq.mpr (fx_isI wy i2)] at hb
      cases hb
theorem fx_ark {f : Nat → Nat → Option Nat} (h : rx_h_ark f K N pc na nb lc sc hp [] 0 0 = some l') : ∃ (x y r : Nat) (s' : List Nat), sc = y :: x :: s' ∧ x % 4 = 0 ∧ y % 4 = 0 ∧ f (x / 4) (y / 4) = some r ∧ l' = [(Nat.add pc 1, lc, rx_int r :: s', hp, [], 0, 0)] := by
  unfold rx_h_ark at h
  match sc, h with
  | [], h => cases h
  | [_], h => cases h
  | y :: x :: s', h =>
    obtain ⟨hb, h⟩ := rx_cond h
    obtain ⟨b1, b2⟩ := rx_and2.mp hb
    cases hr : f (rx_pl x) (rx_pl y) with
    | none => rw [hr] at h; cases h
    | some r => rw [hr] at h; cases h; exact ⟨x, y, r, s', rfl, rx_beq.mp b1, rx_beq.mp b2, hr, rfl⟩
end FXS
end
section
section FXT
variable {w : ax_W} {FZ : List (List (Nat × Nat))} {K : rx_K} {N : rx_N} {pc na nb : Nat} {lc sc : List Nat} {hp : rx_H} {l' : List rx_S}
theorem fx_i32 (z : Int32) : rx_i32 z < 4294967296 := z.toBitVec.isLt
theorem fx_t_un {FK : List (List Nat)} {f : Nat → Nat} {i : Nat} (hf : ∀ x, (bif Nat.beq i 0 then i_neg x else i_2b x) = f x) (hf2 : ∀ x, f x < 4294967296) (hl : fx_ws lc) (hs : fx_ws sc) (hH : fx_H w FK FZ hp) (h : rx_h_un f K N pc na nb lc sc hp [] 0 0 = some l') : fx_Re w FK FZ (fun NX lv => fx_s2 NX pc 11 i na [] lv (sc.map fx_d) (fx_hp hp)) lc hp l' := by
  unfold rx_h_un at h
  match sc, hs, h with
  | [], hs, h => cases h
  | x :: s', hs, h =>
    obtain ⟨hb, h⟩ := rx_cond h
    cases h
    refine fx_r1 hl (fx_ws_cons (fx_wv_int (hf2 _)) (fx_ws_tl hs)) hH (fun NX lv h => ?_)
    rw [List.map_cons, fx_d_int] at h
    show NX (Nat.add pc 1) lv ((0, bif Nat.beq i 0 then i_neg (x / 4) else i_2b (x / 4)) :: s'.map fx_d) (fx_hp hp)
    rw [hf]
    exact h
theorem fx_t_arJ {FK : List (List Nat)} {f : Nat → Nat → Nat} {i : Nat} (hf : ∀ x y, fx_j i x y = f x y) (hl : fx_ws lc) (hs : fx_ws sc) (hH : fx_H w FK FZ hp) (h : rx_h_arJ f K N pc na nb lc sc hp [] 0 0 = some l') : fx_Re w FK FZ (fun NX lv => fx_s2 NX pc 12 i na [] lv (sc.map fx_d) (fx_hp hp)) lc hp l' := by
  unfold rx_h_arJ at h
  match sc, hs, h with
  | [], hs, h => cases h
  | [_], hs, h => cases h
  | y :: x :: s', hs, h =>
    obtain ⟨hb, h⟩ := rx_cond h
    cases h
    refine fx_r1 hl (fx_ws_cons fx_wv_lng (fx_ws_tl (fx_ws_tl hs))) hH (fun NX lv h => ?_)
    rw [List.map_cons, fx_d_lng] at h
    show NX (Nat.add pc 1) lv ((1, fx_j i (x / 4) (y / 4)) :: s'.map fx_d) (fx_hp hp)
    rw [hf]
    exact h
theorem fx_t_shJ {FK : List (List Nat)} {f : Nat → Nat → Nat} {i : Nat} (hf : ∀ x y, (bif Nat.beq i 0 then rx_j_shl x y else rx_j_shr x y) = f x y) (hl : fx_ws lc) (hs : fx_ws sc) (hH : fx_H w FK FZ hp) (h : rx_h_shJ f K N pc na nb lc sc hp [] 0 0 = some l') : fx_Re w FK FZ (fun NX lv => fx_s2 NX pc 13 i na [] lv (sc.map fx_d) (fx_hp hp)) lc hp l' := by
  unfold rx_h_shJ at h
  match sc, hs, h with
  | [], hs, h => cases h
  | [_], hs, h => cases h
  | y :: x :: s', hs, h =>
    obtain ⟨hb, h⟩ := rx_cond h
    cases h
    refine fx_r1 hl (fx_ws_cons fx_wv_lng (fx_ws_tl (fx_ws_tl hs))) hH (fun NX lv h => ?_)
    rw [List.map_cons, fx_d_lng] at h
    show NX (Nat.add pc 1) lv ((1, bif Nat.beq i 0 then rx_j_shl (x / 4) (y / 4) else rx_j_shr (x / 4) (y / 4)) :: s'.map fx_d) (fx_hp hp)
    rw [hf]
    exact h
theorem fx_t_lcmp {FK : List (List Nat)} {i : Nat} (hl : fx_ws lc) (hs : fx_ws sc) (hH : fx_H w FK FZ hp) (h : rx_h_lcmp K N pc na nb lc sc hp [] 0 0 = some l') : fx_Re w FK FZ (fun NX lv => fx_s2 NX pc 14 i na [] lv (sc.map fx_d) (fx_hp hp)) lc hp l' := by
  unfold rx_h_lcmp at h
  match sc, hs, h with
  | [], hs, h => cases h
  | [_], hs, h => cases h
  | y :: x :: s', hs, h =>
    obtain ⟨hb, h⟩ := rx_cond h
    cases h
    refine fx_r1 hl (fx_ws_cons (fx_wv_int (fx_i32 _)) (fx_ws_tl (fx_ws_tl hs))) hH (fun NX lv h => ?_)
    rw [List.map_cons, fx_d_int] at h
    exact h
theorem fx_condN {α : Type} {b : Bool} {x y : α} (h : (bif b then none else some x) = some y) : y = x := by
  cases b
  · cases h; rfl
  · cases h
theorem fx_t_dup {FK : List (List Nat)} {i : Nat} (hl : fx_ws lc) (hs : fx_ws sc) (hH : fx_H w FK FZ hp) (h : rx_h_dup K N pc na nb lc sc hp [] 0 0 = some l') : fx_Re w FK FZ (fun NX lv => fx_s2 NX pc 15 i na [] lv (sc.map fx_d) (fx_hp hp)) lc hp l' := by
  unfold rx_h_dup at h
  match sc, hs, h with
  | [], hs, h => cases h
  | x :: s', hs, h =>
    rw [fx_condN h]
    exact fx_r1 hl (fx_ws_cons (fx_ws_hd hs) hs) hH (fun NX lv h => h)
theorem fx_t_pop {FK : List (List Nat)} {i : Nat} (hl : fx_ws lc) (hs : fx_ws sc) (hH : fx_H w FK FZ hp) (h : rx_h_pop K N pc na nb lc sc hp [] 0 0 = some l') : fx_Re w FK FZ (fun NX lv => fx_s2 NX pc 16 i na [] lv (sc.map fx_d) (fx_hp hp)) lc hp l' := by
  unfold rx_h_pop at h
  match sc, hs, h with
  | [], hs, h => cases h
  | x :: s', hs, h =>
    rw [fx_condN h]
    exact fx_r1 hl (fx_ws_tl hs) hH (fun NX lv h => h)
theorem fx_t_dup2 {FK : List (List Nat)} {i : Nat} (hl : fx_ws lc) (hs : fx_ws sc) (hH : fx_H w FK FZ hp) (h : rx_h_dup2 K N pc na nb lc sc hp [] 0 0 = some l') : fx_Re w FK FZ (fun NX lv => fx_s2 NX pc 17 i na [] lv (sc.map fx_d) (fx_hp hp)) lc hp l' := by
  unfold rx_h_dup2 at h
  match sc, hs, h with
  | [], hs, h => cases h
  | [_], hs, h => cases h
  | x :: y :: s', hs, h =>
    rw [fx_condN h]
    exact fx_r1 hl (fx_ws_cons (fx_ws_hd hs) (fx_ws_cons (fx_ws_hd (fx_ws_tl hs)) hs)) hH (fun NX lv h => h)
theorem fx_t_goto {FK : List (List Nat)} {i : Nat} (hl : fx_ws lc) (hs : fx_ws sc) (hH : fx_H w FK FZ hp) (h : rx_h_goto K N pc na nb lc sc hp [] 0 0 = some l') : fx_Re w FK FZ (fun NX lv => fx_s2 NX pc 18 i na [] lv (sc.map fx_d) (fx_hp hp)) lc hp l' := by
  cases h
  exact fx_r1 hl hs hH (fun NX lv h => h)
theorem fx_bi_inj {x y : Nat} (hx : x < 4294967296) (hy : y < 4294967296) (h : rx_bi x = rx_bi y) : x = y := by
  rw [ax_bi_def, ax_bi_def] at h
  omega
theorem fx_c_ok {k x y : Nat} (hx : x < 4294967296) (hy : y < 4294967296) (hk : k < 6) : fx_c k x y ↔ ax_cnd k (rx_bi x) (rx_bi y) := by
  match k, hk with
  | 0, _ => exact ⟨fun h => congrArg rx_bi h, fun h => fx_bi_inj hx hy h⟩
  | 1, _ => exact ⟨fun h z => h (fx_bi_inj hx hy z), fun h z => h (congrArg rx_bi z)⟩
  | 2, _ => exact iff_of_eq (s_lt_eq x y)
  | 3, _ => exact iff_of_eq (s_le_eq y x)
  | 4, _ => exact iff_of_eq (s_lt_eq y x)
  | 5, _ => exact iff_of_eq (s_le_eq x y)
theorem fx_cnd_not {k x y : Nat} (hk : k < 6) (h : ¬ ax_cnd k x y) : ax_cnd (ax_not k) x y := by
  match k, hk, h with
  | 0, _, h => exact h
  | 1, _, h => exact Classical.not_not.mp h
  | 2, _, h => exact Nat.le_of_not_lt h
  | 3, _, h => exact Nat.lt_of_not_le h
  | 4, _, h => exact Nat.le_of_not_lt h
  | 5, _, h => exact Nat.lt_of_not_le h
/-- a branch: which way it goes -/
theorem fx_t_br {FK : List (List Nat)} {k : ClassFile.Cond} {x y : Nat} {st st' : List Nat} (hx : fx_wv x) (hy : fx_wv y) (hl : fx_ws lc) (hs : fx_ws st') (hH : fx_H w FK FZ hp) (h : rx_br k na pc x y st st' lc hp [] 0 0 = some l') : fx_Re w FK FZ (fun NX lv => (fx_c (ax_cn k) (x / 4) (y / 4) → NX na lv (st'.map fx_d) (fx_hp hp)) ∧ (fx_c (ax_not (ax_cn k)) (x / 4) (y / 4) → NX (Nat.add pc 3) lv (st'.map fx_d) (fx_hp hp))) lc hp l' := by
  have int : ∀ v, fx_wv v → ∀ q, rx_io [] v = some q → v % 4 = 0 ∧ q = (rx_bi (v / 4), rx_bi (v / 4)) := by
    intro v hv q hq
    unfold rx_io at hq
    rcases ax_condY hq with ⟨hb, hq⟩ | ⟨hb, hq⟩
    · exact ⟨rx_beq.mp hb, (Option.some.inj hq).symm⟩
    · rw [show Nat.beq (rx_tk v) 3 = false from Bool.eq_false_iff.mpr (fun z => hv.1 (rx_beq.mp z))] at hq
      cases hq
  unfold rx_br at h
  cases hax : rx_io [] x with
  | none => rw [hax] at h; cases h
  | some a =>
    cases hay : rx_io [] y with
    | none => rw [hax, hay] at h; cases h
    | some b =>
      obtain ⟨x0, ea⟩ := int x hx a hax
      obtain ⟨y0, eb⟩ := int y hy b hay
      rw [hax, hay] at h
      dsimp only at h
      rw [ea, eb] at h
      have bx := hx.2 x0
      have by' := hy.2 y0
      have k6 := ax_cn_lt k
      rcases ax_tri k (rx_bi (x / 4)) (rx_bi (y / 4)) with ⟨hc, ht⟩ | ⟨hc, ht⟩
      · rw [ht] at h
        cases h
        refine fx_r1 hl hs hH (fun NX lv h => ⟨fun _ => h, fun z => ?_⟩)
        exact absurd ((fx_c_ok bx by' (ax_not_lt k6)).mp z) (fun z => ax_cnd_no k6 hc z)
      · rw [ht] at h
        cases h
        refine fx_r1 hl hs hH (fun NX lv h => ⟨fun z => ?_, fun _ => h⟩)
        exact absurd ((fx_c_ok bx by' k6).mp z) hc
theorem fx_t_if {FK : List (List Nat)} {k : ClassFile.Cond} (hl : fx_ws lc) (hs : fx_ws sc) (hH : fx_H w FK FZ hp) (h : rx_h_if k K N pc na nb lc sc hp [] 0 0 = some l') : fx_Re w FK FZ (fun NX lv => fx_s2 NX pc 19 (ax_cn k) na [] lv (sc.map fx_d) (fx_hp hp)) lc hp l' := by
  unfold rx_h_if at h
  match sc, hs, h with
  | [], hs, h => cases h
  | x :: s', hs, h => exact fx_t_br (y := 0) (fx_ws_hd hs) ⟨by decide, fun _ => by decide⟩ hl (fx_ws_tl hs) hH h
theorem fx_t_icmp {FK : List (List Nat)} {k : ClassFile.Cond} (hl : fx_ws lc) (hs : fx_ws sc) (hH : fx_H w FK FZ hp) (h : rx_h_icmp k K N pc na nb lc sc hp [] 0 0 = some l') : fx_Re w FK FZ (fun NX lv => fx_s2 NX pc 20 (ax_cn k) na [] lv (sc.map fx_d) (fx_hp hp)) lc hp l' := by
  unfold rx_h_icmp at h
  match sc, hs, h with
  | [], hs, h => cases h
  | [_], hs, h => cases h
  | y :: x :: s', hs, h => exact fx_t_br (fx_ws_hd (fx_ws_tl hs)) (fx_ws_hd hs) hl (fx_ws_tl (fx_ws_tl hs)) hH h
theorem fx_sw_one {D : Nat → Prop} {x : Nat} : ∀ {tg : List Nat} {j k t : Nat}, x = j + k → tg[k]? = some t → D t → fx_sw D x tg j
  | [], j, k, t, _, ht, _ => by cases ht
  | t0 :: tg, j, 0, t, hx, ht, hD => by
    cases ht
    refine ⟨fun _ => hD, ?_⟩
    have : ∀ (tg : List Nat) (i : Nat), x < i → fx_sw D x tg i := by
      intro tg
      induction tg with
      | nil => intro i _; trivial
      | cons a tg ih => intro i hi; exact ⟨fun z => by omega, ih (Nat.succ i) (by omega)⟩
    exact this tg (Nat.succ j) (by omega)
  | t0 :: tg, j, k + 1, t, hx, ht, hD => ⟨fun z => by omega, fx_sw_one (tg := tg) (j := Nat.succ j) (k := k) (by omega) ht hD⟩
theorem fx_sw_out {D : Nat → Prop} {x : Nat} : ∀ {tg : List Nat} {j : Nat}, (x < j ∨ j + tg.length ≤ x) → fx_sw D x tg j
  | [], _, _ => trivial
  | t :: tg, j, h => ⟨fun z => by rw [List.length_cons] at h; omega, fx_sw_out (tg := tg) (j := Nat.succ j) (by rw [List.length_cons] at h; omega)⟩
theorem fx_t_tsw {FK : List (List Nat)} {lo hi : Int} {offs : Array Int} {i : Nat} {tg : List Nat} (hn : (bif decide (0 ≤ lo) && (decide (hi = lo + offs.toList.length - 1) && offs.toList.all (fun o => decide (0 ≤ (pc : Int) + o))) then some (21, lo.toNat, 0, ax_tgs pc offs.toList) else none) = some ((21 : Nat), i, (0 : Nat), tg)) (hsm : i + tg.length < 100000) (hl : fx_ws lc) (hs : fx_ws sc) (hH : fx_H w FK FZ hp) (h : rx_h_tsw lo hi offs K N pc na nb lc sc hp [] 0 0 = some l') : fx_Re w FK FZ (fun NX lv => fx_s2 NX pc 21 i na tg lv (sc.map fx_d) (fx_hp hp)) lc hp l' := by
  obtain ⟨hc, hn⟩ := rx_cond hn
  obtain ⟨c1, hc⟩ := rx_and2.mp hc
  obtain ⟨c2, c3⟩ := rx_and2.mp hc
  have c1 : 0 ≤ lo := of_decide_eq_true c1
  have c2 : hi = lo + offs.toList.length - 1 := of_decide_eq_true c2
  cases hn
  unfold rx_h_tsw at h
  match sc, hs, h with
  | [], hs, h => cases h
  | x :: s', hs, h =>
    dsimp only at h
    have wx := fx_ws_hd hs
    obtain ⟨l0, rfl⟩ := Int.eq_ofNat_of_zero_le c1
    have ei : ((l0 : Nat) : Int).toNat = l0 := rfl
    rw [ei] at hsm ⊢
    have htl : (ax_tgs pc offs.toList).length = offs.toList.length := by unfold ax_tgs; rw [List.length_map]
    rw [htl] at hsm
    unfold rx_tsw2 at h
    cases hq : rx_io [] x with
    | none => rw [hq] at h; cases h
    | some q =>
      rw [hq] at h
      have x0 : x % 4 = 0 ∧ q = (rx_bi (x / 4), rx_bi (x / 4)) := by
        unfold rx_io at hq
        rcases ax_condY hq with ⟨hb, hq⟩ | ⟨hb, hq⟩
        · exact ⟨rx_beq.mp hb, (Option.some.inj hq).symm⟩
        · rw [show Nat.beq (rx_tk x) 3 = false from Bool.eq_false_iff.mpr (fun z => wx.1 (rx_beq.mp z))] at hq
          cases hq
      obtain ⟨x0, rfl⟩ := x0
      have xb := wx.2 x0
      have hbi := ax_bi_def (x / 4)
      cases hi with
      | negSucc m => cases h
      | ofNat h0 =>
        replace h : rx_tsw1 (Nat.add l0 2147483648) (Nat.add h0 2147483648) offs pc na x (rx_bi (x / 4)) (rx_bi (x / 4)) lc s' hp [] 0 0 = some l' := h
        have hh : h0 + 1 = l0 + offs.toList.length := by
          rw [Int.ofNat_eq_natCast] at c2
          omega
        unfold rx_tsw1 at h
        rcases ax_condY h with ⟨hb, h⟩ | ⟨hb, h⟩
        · cases h
          have hout : x / 4 < l0 ∨ l0 + offs.toList.length ≤ x / 4 := by
            rcases rx_or2.mp hb with z | z
            · have z : rx_bi (x / 4) < l0 + 2147483648 := rx_blt.mp z
              omega
            · have z : h0 + 2147483648 < rx_bi (x / 4) := rx_blt.mp z
              omega
          refine fx_r1 hl (fx_ws_tl hs) hH (fun NX lv h => ?_)
          exact ⟨fun _ => h, fx_sw_out (by rw [htl]; exact hout)⟩
        · have n1 : l0 + 2147483648 ≤ rx_bi (x / 4) := by
            rcases Nat.lt_or_ge (rx_bi (x / 4)) (l0 + 2147483648) with z | z
            · rw [show Nat.blt (rx_bi (x / 4)) (Nat.add l0 2147483648) = true from rx_blt.mpr z] at hb; cases hb
            · exact z
          have n2 : rx_bi (x / 4) ≤ h0 + 2147483648 := by
            rcases Nat.lt_or_ge (h0 + 2147483648) (rx_bi (x / 4)) with z | z
            · rw [show Nat.blt (Nat.add h0 2147483648) (rx_bi (x / 4)) = true from rx_blt.mpr z, Bool.or_true] at hb; cases hb
            · exact z
          rw [Nat.beq_refl, cond_true] at h
          obtain ⟨k, hk⟩ : ∃ k, x / 4 = l0 + k := ⟨x / 4 - l0, by omega⟩
          have e1 : Nat.sub (rx_bi (x / 4)) (Nat.add l0 2147483648) = k := by show rx_bi (x / 4) - (l0 + 2147483648) = k; omega
          rw [e1, ← Array.getElem?_toList] at h
          cases ho : offs.toList[k]? with
          | none => rw [ho] at h; cases h
          | some o =>
            rw [ho] at h
            dsimp only at h
            have hkl : k < offs.toList.length := by
              rcases Nat.lt_or_ge k offs.toList.length with z | z
              · exact z
              · rw [List.getElem?_eq_none_iff.mpr z] at ho; cases ho
            cases ht : (pc : Int) + o with
            | negSucc m => rw [ht] at h; cases h
            | ofNat t =>
              rw [ht] at h
              cases h
              have htg : (ax_tgs pc offs.toList)[k]? = some t := by
                unfold ax_tgs
                rw [List.getElem?_map, ho]
                show some ((pc : Int) + o).toNat = some t
                rw [ht]
                rfl
              refine fx_r1 hl (fx_ws_tl hs) hH (fun NX lv h => ?_)
              refine ⟨fun z => ?_, fx_sw_one hk htg h⟩
              replace z : x / 4 < l0 ∨ l0 + rx_len (ax_tgs pc offs.toList) ≤ x / 4 := z
              rw [rx_len_eq, htl] at z
              omega
end FXT
end
section
section FXU
variable {w : ax_W} {FZ : List (List (Nat × Nat))} {K : rx_K} {N : rx_N} {pc na nb : Nat} {lc sc : List Nat} {hp : rx_H} {l' : List rx_S}
theorem fx_hp_at {q k n i x : Nat} {f : List Nat} (h : rx_hg hp q = some (k, n, f)) (hi : f[i]? = some x) : fx_hp hp (q + 2) i = x / 4 := by
  unfold fx_hp
  rw [show Nat.ble 2 (q + 2) = true from rx_ble.mpr (by omega), cond_true, show q + 2 - 2 = q by omega, h]
  show (f[i]?.getD 0) / 4 = x / 4
  rw [hi]
  rfl
/-- a cell is written: the new heap -/
theorem fx_hp_wr {q k n i v : Nat} {f : List Nat} (h8 : hp.1 ≤ 256) (h : rx_hg hp q = some (k, n, f)) (hi : i < f.length) : fx_hp (rx_hs hp q (k, n, f.set i v)) = fu (fx_hp hp) (q + 2) i (v / 4) := by
  funext p j
  have hg := fun q' => rx_hg_hs h8 (q' := q') (c := (k, n, f.set i v)) (rx_hg_lt h)
  show fx_hp _ p j = bif (Nat.beq p (q + 2) && Nat.beq j i) then v / 4 else fx_hp hp p j
  unfold fx_hp
  rw [hg]
  by_cases hp2 : 2 ≤ p
  · rw [show Nat.ble 2 p = true from rx_ble.mpr hp2, cond_true, cond_true]
    by_cases hpq : p - 2 = q
    · rw [if_pos hpq, show Nat.beq p (q + 2) = true from rx_beq.mpr (by omega), Bool.true_and, hpq, h]
      dsimp only
      rw [List.getElem?_set]
      by_cases hij : i = j
      · rw [if_pos hij, show Nat.beq j i = true from rx_beq.mpr hij.symm, cond_true]
        rw [if_pos hi]
        rfl
      · rw [if_neg hij, show Nat.beq j i = false from Bool.eq_false_iff.mpr (fun z => hij (rx_beq.mp z).symm), cond_false]
    · rw [if_neg hpq, show Nat.beq p (q + 2) = false from Bool.eq_false_iff.mpr (fun z => hpq (by have := rx_beq.mp z; omega)), Bool.false_and, cond_false]
  · rw [show Nat.ble 2 p = false from Bool.eq_false_iff.mpr (fun z => hp2 (rx_ble.mp z)), cond_false, cond_false, show Nat.beq p (q + 2) = false from Bool.eq_false_iff.mpr (fun z => hp2 (by have := rx_beq.mp z; omega)), Bool.false_and, cond_false]
theorem fx_H_wr {FK : List (List Nat)} {q k n i v : Nat} {f : List Nat} (hH : fx_H w FK FZ hp) (h : rx_hg hp q = some (k, n, f)) (hv : fx_ft FK FZ q k i v) : fx_H w FK FZ (rx_hs hp q (k, n, f.set i v)) ∧ (rx_hs hp q (k, n, f.set i v)).1 = hp.1 := by
  refine ⟨⟨hH.1, fun q' k' n' f' h' => ?_⟩, rfl⟩
  rw [rx_hg_hs hH.1 (rx_hg_lt h)] at h'
  by_cases hq : q' = q
  · rw [if_pos hq] at h'
    cases h'
    subst hq
    obtain ⟨g1, g2, g3⟩ := hH.2 _ _ _ _ h
    refine ⟨by rw [List.length_set]; exact g1, g2, fun j u hu => ?_⟩
    rw [List.getElem?_set] at hu
    by_cases hij : i = j
    · rw [if_pos hij] at hu
      by_cases hl : i < f.length
      · rw [if_pos hl] at hu
        cases hu
        rw [← hij]
        exact hv
      · rw [if_neg hl] at hu; cases hu
    · rw [if_neg hij] at hu
      exact g3 j u hu
  · rw [if_neg hq] at h'
    exact hH.2 q' k' n' f' h'
theorem fx_tag {v : Nat} (h : (Nat.beq (rx_tk v) 2 && Nat.ble 2 (rx_pl v)) = true) : v % 4 = 2 ∧ 2 ≤ v / 4 := by
  obtain ⟨h1, h2⟩ := rx_and2.mp h
  exact ⟨rx_beq.mp h1, rx_ble.mp h2⟩
theorem fx_pq {v : Nat} (h : 2 ≤ v / 4) : v / 4 = v / 4 - 2 + 2 := by omega
theorem fx_t_gf {i : Nat} (hl : fx_ws lc) (hs : fx_ws sc) (hH : fx_H w K.2 FZ hp) (h : rx_h_gf K N pc na nb lc sc hp [] 0 0 = some l') : fx_Re w K.2 FZ (fun NX lv => fx_s3 w K.2 FZ NX pc 22 i na nb lv (sc.map fx_d) (fx_hp hp)) lc hp l' := by
  unfold rx_h_gf at h
  match sc, hs, h with
  | [], hs, h => cases h
  | v :: s', hs, h =>
    obtain ⟨hb, h⟩ := rx_cond h
    obtain ⟨t2, p2⟩ := fx_tag hb
    cases hz : rx_hg hp (Nat.sub (rx_pl v) 2) with
    | none => rw [hz] at h; cases h
    | some z =>
      obtain ⟨k, n, f⟩ := z
      rw [hz] at h
      obtain ⟨hk, h1⟩ := rx_cond h
      have hk := rx_beq.mp hk
      clear h hb
      subst hk
      rw [rx_nth_eq] at h1
      cases hx : f[nb]? with
      | none => rw [hx] at h1; cases h1
      | some x =>
        rw [hx] at h1
        cases h1
        obtain ⟨g1, g2, g3⟩ := hH.2 _ _ _ _ hz
        obtain ⟨x1, x2, x3, x4⟩ := g3 nb x hx
        refine fx_r1 hl (fx_ws_cons x1 (fx_ws_tl hs)) hH (fun NX lv h => ?_)
        have hF : fx_hp hp (v / 4) nb = x / 4 := by
          rw [fx_pq p2]
          exact fx_hp_at hz hx
        have ex : fx_gv K.2 (fx_fz FZ k nb) k nb (v / 4) (fx_hp hp) = fx_d x := by
          unfold fx_gv
          cases e1 : Nat.beq (fx_fz FZ k nb).1 1 with
          | true =>
            have := x3 (rx_beq.mp e1)
            rw [cond_true]
            show ((2, v / 4 + (fx_fz FZ k nb).2) : fx_V) = (x % 4, x / 4)
            have q1 : Nat.sub (rx_pl v) 2 = v / 4 - 2 := rfl
            rw [q1] at this
            have a1 : x % 4 = 2 := by omega
            have a2 : x / 4 = v / 4 + (fx_fz FZ k nb).2 := by omega
            rw [a1, a2]
          | false =>
            rw [cond_false]
            cases e2 : Nat.beq (fx_fz FZ k nb).1 2 with
            | true =>
              have := x4 (rx_beq.mp e2)
              rw [cond_true]
              show ((2, (fx_fz FZ k nb).2) : fx_V) = (x % 4, x / 4)
              have a1 : x % 4 = 2 := by omega
              have a2 : x / 4 = (fx_fz FZ k nb).2 := by omega
              rw [a1, a2]
            | false =>
              rw [cond_false, hF, ← x2]
              rfl
        show NX (Nat.add pc 3) lv (fx_gv K.2 (fx_fz FZ k nb) k nb (v / 4) (fx_hp hp) :: s'.map fx_d) (fx_hp hp)
        rw [ex]
        exact h
theorem fx_t_pf {i : Nat} (hfz : Nat.beq (fx_fz FZ na nb).1 0 = true) (h12 : na < 12) (hl : fx_ws lc) (hs : fx_ws sc) (hH : fx_H w K.2 FZ hp) (h : rx_h_pf K N pc na nb lc sc hp [] 0 0 = some l') : fx_Re w K.2 FZ (fun NX lv => fx_s3 w K.2 FZ NX pc 23 i na nb lv (sc.map fx_d) (fx_hp hp)) lc hp l' := by
  unfold rx_h_pf at h
  match sc, hs, h with
  | [], hs, h => cases h
  | [_], hs, h => cases h
  | x :: v :: s', hs, h =>
    obtain ⟨hb, h⟩ := rx_cond h
    obtain ⟨t2, p2⟩ := fx_tag hb
    cases hz : rx_hg hp (Nat.sub (rx_pl v) 2) with
    | none => rw [hz] at h; cases h
    | some z =>
      obtain ⟨k, n, f⟩ := z
      rw [hz] at h
      dsimp only at h
      cases e1 : rx_nth K.2 na with
      | none => rw [e1] at h; cases h
      | some ks =>
        rw [e1] at h
        dsimp only at h
        cases e2 : rx_nth ks nb with
        | none => rw [e2] at h; cases h
        | some kd =>
          rw [e2] at h
          obtain ⟨hc, h1⟩ := rx_cond h
          obtain ⟨c1, hc⟩ := rx_and2.mp hc
          obtain ⟨c2, c3⟩ := rx_and2.mp hc
          have c1 := rx_beq.mp c1
          clear h hb hc
          subst c1
          have c2 : nb < n := rx_blt.mp c2
          obtain ⟨g1, g2, g3⟩ := hH.2 _ _ _ _ hz
          rw [rx_upd_eq] at h1
          cases h1
          have wx := fx_ws_hd hs
          have hft : fx_ft K.2 FZ (Nat.sub (rx_pl v) 2) k nb x := by
            refine ⟨wx, ?_, fun z => ?_, fun z => ?_⟩
            · unfold fx_tg
              rw [show Nat.blt k 12 = true from rx_blt.mpr h12, cond_true, e1]
              dsimp only
              rw [e2]
              dsimp only
              rcases ax_condY c3 with ⟨d, c3⟩ | ⟨d, c3⟩
              · rw [rx_beq.mp d]; exact fx_isI wx c3
              rcases ax_condY c3 with ⟨d, c3⟩ | ⟨d, c3⟩
              · rw [rx_beq.mp d]
                rcases rx_or2.mp c3 with c3 | c3
                · rw [rx_beq.mp c3]; rfl
                · rw [rx_beq.mp c3]; rfl
              rcases ax_condY c3 with ⟨d, c3⟩ | ⟨d, c3⟩
              · rw [rx_beq.mp d]; exact rx_beq.mp c3
              · cases c3
            · rw [rx_beq.mp hfz] at z; cases z
            · rw [rx_beq.mp hfz] at z; cases z
          obtain ⟨H1, H2⟩ := fx_H_wr hH hz hft
          refine ⟨_, rfl, ⟨hl, fx_ws_tl (fx_ws_tl hs), H1, rfl⟩, H2, fun NX lv hL hN => ?_⟩
          have hN := hN lv hL
          rw [show fx_hp (rx_hs hp (Nat.sub (rx_pl v) 2) (k, n, f.set nb x)) = fu (fx_hp hp) (v / 4) nb (x / 4) by
            rw [fx_hp_wr hH.1 hz (by rw [g1]; exact c2)]
            rw [show Nat.sub (rx_pl v) 2 + 2 = v / 4 from (fx_pq p2).symm]] at hN
          exact hN
theorem fx_t_alen (hsl : rx_sl N = 0) (hl : fx_ws lc) (hs : fx_ws sc) {FK : List (List Nat)} (hH : fx_H w FK FZ hp) (h : rx_h_alen K N pc na nb lc sc hp [] 0 0 = some l') (hn : ∀ p, fx_len w p < 4294967296) : fx_Re w FK FZ (fun NX lv => fx_s3 w FK FZ NX pc 24 0 na nb lv (sc.map fx_d) (fx_hp hp)) lc hp l' := by
  unfold rx_h_alen at h
  match sc, hs, h with
  | [], hs, h => cases h
  | v :: s', hs, h =>
    rcases ax_condY h with ⟨d, h⟩ | ⟨d, h⟩
    · rw [hsl] at h; cases h
    obtain ⟨hb, h⟩ := rx_cond h
    obtain ⟨t2, p2⟩ := fx_tag hb
    cases hz : rx_hg hp (Nat.sub (rx_pl v) 2) with
    | none => rw [hz] at h; cases h
    | some z =>
      obtain ⟨k, n, f⟩ := z
      rw [hz] at h
      obtain ⟨-, h⟩ := rx_cond h
      cases h
      obtain ⟨g1, ⟨g, l, g2, g4⟩, g3⟩ := hH.2 _ _ _ _ hz
      have el : fx_len w (v / 4) = n := by
        unfold fx_len
        rw [rx_nth_eq, show w.1[Nat.sub (v / 4) 2]? = some g from g2]
        dsimp only
        rw [rx_nth_eq, g4]
      refine fx_r1 hl (fx_ws_cons (fx_wv_int (by rw [← el]; exact hn _)) (fx_ws_tl hs)) hH (fun NX lv h => ?_)
      rw [List.map_cons, fx_d_int] at h
      show NX (Nat.add pc 1) lv ((0, fx_len w (v / 4)) :: s'.map fx_d) (fx_hp hp)
      rw [el]
      exact h
theorem fx_half {pcx v : Nat} (hv : fx_wv v) (h0 : ¬ v % 4 = 0) (h : rx_half pcx lc sc hp [] 0 0 v = some l') : False := by
  unfold rx_half at h
  have : rx_io [] v = none := by
    unfold rx_io
    rw [show Nat.beq (rx_tk v) 0 = false from Bool.eq_false_iff.mpr (fun z => h0 (rx_beq.mp z)), cond_false, show Nat.beq (rx_tk v) 3 = false from Bool.eq_false_iff.mpr (fun z => hv.1 (rx_beq.mp z))]
    rfl
  rw [this] at h
  cases h
theorem fx_t_ald {FK : List (List Nat)} {ok : Nat → Bool} {i : Nat} (hi : Nat.beq i 0 = false) (hok : ∀ t j, ok t = true → fx_tg FK t j = bif Nat.beq i 14 then 1 else bif Nat.beq i 16 then 2 else 0) (hsl : rx_sl N = 0) (hl : fx_ws lc) (hs : fx_ws sc) (hH : fx_H w FK FZ hp) (h : rx_h_ald ok K N pc na nb lc sc hp [] 0 0 = some l') : fx_Re w FK FZ (fun NX lv => fx_s3 w FK FZ NX pc 24 i na nb lv (sc.map fx_d) (fx_hp hp)) lc hp l' := by
  unfold rx_h_ald at h
  match sc, hs, h with
  | [], hs, h => cases h
  | [_], hs, h => cases h
  | ix :: v :: s', hs, h =>
    dsimp only at h
    rw [ax_kn, hsl] at h
    rcases ax_condY h with ⟨d, h⟩ | ⟨d, h⟩
    · obtain ⟨hb, -⟩ := rx_cond h
      obtain ⟨-, hb⟩ := rx_and2.mp hb
      obtain ⟨-, hb⟩ := rx_and2.mp hb
      exact absurd (rx_blt.mp hb) (Nat.not_lt_zero _)
    obtain ⟨hb, h⟩ := rx_cond h
    obtain ⟨t2, p2⟩ := fx_tag hb
    cases hz : rx_hg hp (Nat.sub (rx_pl v) 2) with
    | none => rw [hz] at h; cases h
    | some z =>
      obtain ⟨k, n, f⟩ := z
      rw [hz] at h
      rcases ax_condY h with ⟨d, h⟩ | ⟨d, h⟩
      · obtain ⟨hb, h⟩ := rx_cond h
        obtain ⟨b1, b2⟩ := rx_and2.mp hb
        rw [rx_nth_eq] at h
        cases hx : f[rx_pl ix]? with
        | none => rw [hx] at h; cases h
        | some x =>
          rw [hx] at h
          cases h
          obtain ⟨g1, g2, g3⟩ := hH.2 _ _ _ _ hz
          obtain ⟨x1, x2, x3, x4⟩ := g3 _ x hx
          refine fx_r1 hl (fx_ws_cons x1 (fx_ws_tl (fx_ws_tl hs))) hH (fun NX lv h => ?_)
          have hF : fx_hp hp (v / 4) (ix / 4) = x / 4 := by
            rw [fx_pq p2]
            exact fx_hp_at hz hx
          have e : ((bif Nat.beq i 14 then 1 else bif Nat.beq i 16 then 2 else 0, fx_hp hp (v / 4) (ix / 4)) : fx_V) = fx_d x := by
            rw [hF, ← hok k (rx_pl ix) b1, ← x2]
            rfl
          show (bif Nat.beq 24 24 && Nat.beq i 0 then NX (Nat.add pc 1) lv _ (fx_hp hp) else _)
          rw [hi]
          show NX (Nat.add pc 1) lv ((bif Nat.beq i 14 then 1 else bif Nat.beq i 16 then 2 else 0, fx_hp hp (v / 4) (ix / 4)) :: s'.map fx_d) (fx_hp hp)
          rw [e]
          exact h
      · exact (fx_half (fx_ws_hd hs) (fun z => by rw [show Nat.beq (rx_tk ix) 0 = true from rx_beq.mpr z] at d; cases d) h).elim
theorem fx_t_ast {FK : List (List Nat)} {ok : Nat → Nat → Bool} {i : Nat} (hok : ∀ t j x, fx_wv x → ok t x = true → 12 ≤ t ∧ x % 4 = fx_tg FK t j) (hFZ : FZ.length ≤ 12) (hl : fx_ws lc) (hs : fx_ws sc) (hH : fx_H w FK FZ hp) (h : rx_ast ok pc lc sc hp [] 0 0 = some l') : fx_Re w FK FZ (fun NX lv => fx_s3 w FK FZ NX pc 25 i na nb lv (sc.map fx_d) (fx_hp hp)) lc hp l' := by
  unfold rx_ast at h
  match sc, hs, h with
  | [], hs, h => cases h
  | [_], hs, h => cases h
  | [_, _], hs, h => cases h
  | x :: ix :: v :: s', hs, h =>
    dsimp only at h
    rw [ax_kn] at h
    obtain ⟨hb, h⟩ := rx_cond h
    obtain ⟨t2, p2⟩ := fx_tag hb
    cases hz : rx_hg hp (Nat.sub (rx_pl v) 2) with
    | none => rw [hz] at h; cases h
    | some z =>
      obtain ⟨k, n, f⟩ := z
      rw [hz] at h
      rcases ax_condY h with ⟨d, h⟩ | ⟨d, h⟩
      · obtain ⟨hb, h⟩ := rx_cond h
        obtain ⟨b1, b2⟩ := rx_and2.mp hb
        obtain ⟨b2, b3⟩ := rx_and2.mp b2
        have b2 : rx_pl ix < n := rx_blt.mp b2
        rw [rx_upd_eq] at h
        cases h
        obtain ⟨g1, g2, g3⟩ := hH.2 _ _ _ _ hz
        have wx := fx_ws_hd hs
        obtain ⟨k12, tg⟩ := hok k (rx_pl ix) x wx b1
        have fz : fx_fz FZ k (rx_pl ix) = (0, 0) := by
          unfold fx_fz
          rw [rx_nth_eq, List.getElem?_eq_none_iff.mpr (Nat.le_trans hFZ k12)]
        obtain ⟨H1, H2⟩ := fx_H_wr (i := rx_pl ix) (v := x) hH hz ⟨wx, tg, fun z => (by rw [fz] at z; cases z), fun z => (by rw [fz] at z; cases z)⟩
        refine ⟨_, rfl, ⟨hl, fx_ws_tl (fx_ws_tl (fx_ws_tl hs)), H1, rfl⟩, H2, fun NX lv hL hN => ?_⟩
        have hN := hN lv hL
        rw [show fx_hp (rx_hs hp (Nat.sub (rx_pl v) 2) (k, n, f.set (rx_pl ix) x)) = fu (fx_hp hp) (v / 4) (ix / 4) (x / 4) by
          rw [fx_hp_wr hH.1 hz (by rw [g1]; exact b2)]
          rw [show Nat.sub (rx_pl v) 2 + 2 = v / 4 from (fx_pq p2).symm]
          rfl] at hN
        exact hN
      · exact (fx_half (fx_ws_hd (fx_ws_tl hs)) (fun z => by rw [show Nat.beq (rx_tk ix) 0 = true from rx_beq.mpr z] at d; cases d) h).elim
end FXU
end
section
/-- what must hold of an instruction -/
noncomputable def fx_okI (FZ : List (List (Nat × Nat))) (x : ax_I) : Bool :=
  (!(Nat.beq x.2.1 7 && Nat.beq x.2.2.1 0) || Nat.blt x.2.2.2.2.1 4294967296) && ((!(Nat.beq x.2.1 23) || (Nat.beq (fx_fz FZ x.2.2.2.2.1 x.2.2.2.2.2.1).1 0 && Nat.blt x.2.2.2.2.1 12)) && (!(Nat.beq x.2.1 21) || Nat.blt (Nat.add x.2.2.1 (rx_len x.2.2.2.2.2.2)) 100000))
section FXV
variable {w : ax_W} {FZ : List (List (Nat × Nat))} {K : rx_K} {N : rx_N} {pc na nb : Nat} {lc sc : List Nat} {hp : rx_H} {l' : List rx_S}
theorem fx_step_ok (hFZ : FZ.length ≤ 12) (hn : ∀ p, fx_len w p < 4294967296) (hsl : rx_sl N = 0) {ins : Instr} {o i j : Nat} {tg : List Nat} (hnum : ax_num pc ins = some (o, i, j, tg)) (hok : fx_okI FZ (pc, o, i, j, na, nb, tg) = true) (hl : fx_ws lc) (hs : fx_ws sc) (hH : fx_H w K.2 FZ hp) (h : rx_sem ins K N pc na nb lc sc hp [] 0 0 = some l') : fx_Re w K.2 FZ (fun NX lv => fx_go1 w K.2 FZ NX (pc, o, i, j, na, nb, tg) pc lv (sc.map fx_d) (fx_hp hp)) lc hp l' := by
  obtain ⟨k1, hok⟩ := rx_and2.mp hok
  obtain ⟨k2, k3⟩ := rx_and2.mp hok
  have bin : ∀ (q : Nat) {l0 : Option (List rx_S)}, q ≤ 10 → (l0 = some l' → ∃ (x y r : Nat) (s' : List Nat), sc = y :: x :: s' ∧ x % 4 = 0 ∧ y % 4 = 0 ∧ ax_f q (x / 4) (y / 4) = some r ∧ l' = [(Nat.add pc 1, lc, rx_int r :: s', hp, [], 0, 0)]) → l0 = some l' → fx_Re w K.2 FZ (fun NX lv => fx_go1 w K.2 FZ NX (pc, 10, q, 0, na, nb, []) pc lv (sc.map fx_d) (fx_hp hp)) lc hp l' := fun q l0 _ hh h => fx_t_bin hh hl hs hH h
  cases ins with
  | iload_n k => cases hnum; exact fx_t_ld (K := K) (N := N) (na := na) (nb := nb) (t := 0) (by decide) hl hs hH h
  | aload_n k => cases hnum; exact fx_t_ld (K := K) (N := N) (na := na) (nb := nb) (t := 2) (by decide) hl hs hH h
  | lload_n k => cases hnum; exact fx_t_ld (K := K) (N := N) (na := na) (nb := nb) (t := 1) (by decide) hl hs hH h
  | iload i => cases hnum; exact fx_t_ld (K := K) (N := N) (na := na) (nb := nb) (t := 0) (by decide) hl hs hH h
  | lload i => cases hnum; exact fx_t_ld (K := K) (N := N) (na := na) (nb := nb) (t := 1) (by decide) hl hs hH h
  | istore_n k => cases hnum; exact fx_t_sto (K := K) (N := N) (na := na) (nb := nb) hl hs hH h
  | astore_n k => cases hnum; exact fx_t_sto (K := K) (N := N) (na := na) (nb := nb) hl hs hH h
  | istore i => cases hnum; exact fx_t_sto (K := K) (N := N) (na := na) (nb := nb) hl hs hH h
  | lstore_n k => cases hnum; exact fx_t_stJ (K := K) (N := N) (na := na) (nb := nb) hl hs hH h
  | lstore i => cases hnum; exact fx_t_stJ (K := K) (N := N) (na := na) (nb := nb) hl hs hH h
  | iconst k => cases hnum; exact fx_t_psh (K := K) (N := N) (na := na) (nb := nb) (rx_blt.mp k1) hl hs hH h
  | bipush k => cases hnum; exact fx_t_psh (K := K) (N := N) (na := na) (nb := nb) (rx_blt.mp k1) hl hs hH h
  | sipush k => cases hnum; exact fx_t_psh (K := K) (N := N) (na := na) (nb := nb) (rx_blt.mp k1) hl hs hH h
  | ldc_w k => cases hnum; exact fx_t_psh (K := K) (N := N) (na := na) (nb := nb) (rx_blt.mp k1) hl hs hH h
  | ldc k => cases hnum; exact fx_t_ldc (K := K) (N := N) (na := na) (nb := nb) hl hs hH h
  | lconst k => cases hnum; exact fx_t_pshJ (K := K) (N := N) (na := na) (nb := nb) hl hs hH h
  | ldc2_w k => cases hnum; exact fx_t_pshJ (K := K) (N := N) (na := na) (nb := nb) hl hs hH h
  | iinc i k => cases hnum; exact fx_t_inc (K := K) (N := N) (na := na) (nb := nb) hl hs hH h
  | iadd => cases hnum; exact bin 0 (by decide) (fun h => fx_ar (f := rx_f_add) (g := rx_g32) (K := K) (N := N) (na := na) (nb := nb) hs h) h
  | isub => cases hnum; exact bin 1 (by decide) (fun h => fx_ar (f := rx_f_sub) (g := rx_g32) (K := K) (N := N) (na := na) (nb := nb) hs h) h
  | imul => cases hnum; exact bin 2 (by decide) (fun h => fx_ar (f := rx_f_mul) (g := rx_g32) (K := K) (N := N) (na := na) (nb := nb) hs h) h
  | iand => cases hnum; exact bin 3 (by decide) (fun h => fx_ar (f := rx_f_and) (g := rx_gand) (K := K) (N := N) (na := na) (nb := nb) hs h) h
  | ior => cases hnum; exact bin 4 (by decide) (fun h => fx_ark (f := rx_f_or) (K := K) (N := N) (na := na) (nb := nb) h) h
  | ixor => cases hnum; exact bin 5 (by decide) (fun h => fx_ark (f := rx_f_xor) (K := K) (N := N) (na := na) (nb := nb) h) h
  | ishl => cases hnum; exact bin 6 (by decide) (fun h => fx_ar (f := rx_f_shl) (g := rx_g32) (K := K) (N := N) (na := na) (nb := nb) hs h) h
  | ishr => cases hnum; exact bin 7 (by decide) (fun h => fx_ark (f := rx_f_shr) (K := K) (N := N) (na := na) (nb := nb) h) h
  | iushr => cases hnum; exact bin 8 (by decide) (fun h => fx_ar (f := rx_f_ushr) (g := rx_g32) (K := K) (N := N) (na := na) (nb := nb) hs h) h
  | idiv => cases hnum; exact bin 9 (by decide) (fun h => fx_ark (f := rx_f_div) (K := K) (N := N) (na := na) (nb := nb) h) h
  | irem => cases hnum; exact bin 10 (by decide) (fun h => fx_ark (f := rx_f_rem) (K := K) (N := N) (na := na) (nb := nb) h) h
  | ineg => cases hnum; exact fx_t_un (K := K) (N := N) (na := na) (nb := nb) (i := 0) (f := rx_f_neg) (fun x => i_neg_eq x) (fun _ => fx_i32 _) hl hs hH h
  | i2b => cases hnum; exact fx_t_un (K := K) (N := N) (na := na) (nb := nb) (i := 1) (f := rx_f_i2b) (fun x => i_2b_eq x) (fun _ => fx_i32 _) hl hs hH h
  | ladd => cases hnum; exact fx_t_arJ (K := K) (N := N) (na := na) (nb := nb) (i := 0) (f := rx_j_add) (fun _ _ => rfl) hl hs hH h
  | lsub => cases hnum; exact fx_t_arJ (K := K) (N := N) (na := na) (nb := nb) (i := 1) (f := rx_j_sub) (fun _ _ => rfl) hl hs hH h
  | lmul => cases hnum; exact fx_t_arJ (K := K) (N := N) (na := na) (nb := nb) (i := 2) (f := rx_j_mul) (fun _ _ => rfl) hl hs hH h
  | land => cases hnum; exact fx_t_arJ (K := K) (N := N) (na := na) (nb := nb) (i := 3) (f := rx_j_and) (fun _ _ => rfl) hl hs hH h
  | lor => cases hnum; exact fx_t_arJ (K := K) (N := N) (na := na) (nb := nb) (i := 4) (f := rx_j_or) (fun _ _ => rfl) hl hs hH h
  | lxor => cases hnum; exact fx_t_arJ (K := K) (N := N) (na := na) (nb := nb) (i := 5) (f := rx_j_xor) (fun _ _ => rfl) hl hs hH h
  | lshl => cases hnum; exact fx_t_shJ (K := K) (N := N) (na := na) (nb := nb) (i := 0) (f := rx_j_shl) (fun _ _ => rfl) hl hs hH h
  | lshr => cases hnum; exact fx_t_shJ (K := K) (N := N) (na := na) (nb := nb) (i := 1) (f := rx_j_shr) (fun _ _ => rfl) hl hs hH h
  | lcmp => cases hnum; exact fx_t_lcmp (K := K) (N := N) (na := na) (nb := nb) (i := 0) hl hs hH h
  | dup => cases hnum; exact fx_t_dup (K := K) (N := N) (na := na) (nb := nb) (i := 0) hl hs hH h
  | pop => cases hnum; exact fx_t_pop (K := K) (N := N) (na := na) (nb := nb) (i := 0) hl hs hH h
  | dup2 => cases hnum; exact fx_t_dup2 (K := K) (N := N) (na := na) (nb := nb) (i := 0) hl hs hH h
  | goto off => cases hnum; exact fx_t_goto (pc := pc) (K := K) (N := N) (na := na) (nb := nb) (i := 0) hl hs hH h
  | ifCond k off => cases hnum; exact fx_t_if (K := K) (N := N) (na := na) (nb := nb) hl hs hH h
  | if_icmp k off => cases hnum; exact fx_t_icmp (K := K) (N := N) (na := na) (nb := nb) hl hs hH h
  | tableswitch d lo hi offs =>
    have h21 : o = 21 := by
      obtain ⟨-, h2⟩ := rx_cond hnum
      cases h2
      rfl
    have h0 : j = 0 := by
      obtain ⟨-, h2⟩ := rx_cond hnum
      cases h2
      rfl
    subst h21
    subst h0
    refine fx_t_tsw (K := K) (N := N) (na := na) (nb := nb) hnum ?_ hl hs hH h
    have : Nat.add i (rx_len tg) < 100000 := rx_blt.mp k3
    rw [rx_len_eq] at this
    exact this
  | getfield k => cases hnum; exact fx_t_gf (K := K) (N := N) (na := na) (nb := nb) (i := 0) hl hs hH h
  | putfield k =>
    cases hnum
    obtain ⟨z1, z2⟩ := rx_and2.mp (show (Nat.beq (fx_fz FZ na nb).1 0 && Nat.blt na 12) = true from k2)
    exact fx_t_pf (K := K) (N := N) (na := na) (nb := nb) (i := 0) z1 (rx_blt.mp z2) hl hs hH h
  | arraylength => cases hnum; exact fx_t_alen (K := K) (N := N) (na := na) (nb := nb) hsl hl hs hH h hn
  | iaload => cases hnum; exact fx_t_ald (K := K) (N := N) (na := na) (nb := nb) (ok := fun t => Nat.beq t 13) (i := 13) rfl (fun t j ht => by rw [rx_beq.mp ht]; rfl) hsl hl hs hH h
  | baload => cases hnum; exact fx_t_ald (K := K) (N := N) (na := na) (nb := nb) (ok := fun t => Nat.beq t 12 || Nat.beq t 15) (i := 12) rfl (fun t j ht => by rcases rx_or2.mp ht with z | z <;> rw [rx_beq.mp z] <;> rfl) hsl hl hs hH h
  | laload => cases hnum; exact fx_t_ald (K := K) (N := N) (na := na) (nb := nb) (ok := fun t => Nat.beq t 14) (i := 14) rfl (fun t j ht => by rw [rx_beq.mp ht]; rfl) hsl hl hs hH h
  | aaload => cases hnum; exact fx_t_ald (K := K) (N := N) (na := na) (nb := nb) (ok := fun t => Nat.beq t 16) (i := 16) rfl (fun t j ht => by rw [rx_beq.mp ht]; rfl) hsl hl hs hH h
  | iastore =>
    cases hnum
    refine fx_t_ast (na := na) (nb := nb) (ok := fun t v => Nat.beq t 13 && rx_isI v) (i := 13) (fun t j x wx hk => ?_) hFZ hl hs hH h
    obtain ⟨a, b⟩ := rx_and2.mp hk
    rw [rx_beq.mp a]
    exact ⟨by decide, fx_isI wx b⟩
  | bastore =>
    cases hnum
    refine fx_t_ast (na := na) (nb := nb) (ok := fun t v => (Nat.beq t 12 && rx_within [] v 2147483520 2147483775) || (Nat.beq t 15 && rx_bit v)) (i := 12) (fun t j x wx hk => ?_) hFZ hl hs hH h
    rcases rx_or2.mp hk with hk | hk
    · obtain ⟨a, b⟩ := rx_and2.mp hk
      rw [rx_beq.mp a]
      refine ⟨by decide, ?_⟩
      unfold rx_within rx_io at b
      cases h0 : Nat.beq (rx_tk x) 0 with
      | true => exact rx_beq.mp h0
      | false =>
        rw [h0, cond_false, show Nat.beq (rx_tk x) 3 = false from Bool.eq_false_iff.mpr (fun z => wx.1 (rx_beq.mp z))] at b
        cases b
    · obtain ⟨a, b⟩ := rx_and2.mp hk
      rw [rx_beq.mp a]
      refine ⟨by decide, ?_⟩
      rcases rx_or2.mp b with b | b <;> rw [rx_beq.mp b] <;> rfl
  | lastore =>
    cases hnum
    refine fx_t_ast (na := na) (nb := nb) (ok := fun t v => Nat.beq t 14 && rx_isJ v) (i := 14) (fun t j x wx hk => ?_) hFZ hl hs hH h
    obtain ⟨a, b⟩ := rx_and2.mp hk
    rw [rx_beq.mp a]
    exact ⟨by decide, rx_beq.mp b⟩
  | aastore =>
    cases hnum
    refine fx_t_ast (na := na) (nb := nb) (ok := fun t v => Nat.beq t 16 && rx_obj hp 7 v) (i := 16) (fun t j x wx hk => ?_) hFZ hl hs hH h
    obtain ⟨a, b⟩ := rx_and2.mp hk
    rw [rx_beq.mp a]
    obtain ⟨b1, -⟩ := rx_and2.mp b
    exact ⟨by decide, rx_beq.mp b1⟩
  | _ => cases hnum
end FXV
end
section
/-! fx: whole runs -/
noncomputable def fx_okC (CV : List Bool) (x : ax_I) : Bool := bif Nat.beq x.2.2.2.2.2.1 2 then Nat.beq x.2.1 31 else bif Nat.beq (Nat.mod x.2.2.2.2.2.1 4) 1 then (bif Nat.beq x.2.1 31 then Nat.beq x.2.2.2.2.2.1 5 || Nat.beq x.2.2.2.2.2.1 9 else Nat.beq x.2.2.2.2.2.1 13 || Nat.beq x.2.2.2.2.2.1 17) else (match rx_nth CV x.2.2.2.2.1 with
  | some b => b
  | none => false)
noncomputable def fx_yx (FZ : List (List (Nat × Nat))) (CV : List Bool) (y : rx_E) (x : ax_I) : Bool := Nat.beq y.2.2.2.2.2.1 x.2.2.2.2.1 && (Nat.beq y.2.2.2.2.2.2.1 x.2.2.2.2.2.1 && (ax_tabY x y && (bif Nat.ble x.2.1 25 then fx_okI FZ x else bif Nat.ble x.2.1 29 then true else fx_okC CV x)))
noncomputable def fx_cov1 (FZ : List (List (Nat × Nat))) (CV : List Bool) (cd : List (List ax_I)) (y : rx_E) : Bool := match ax_lookI cd y.1 with
  | some x => fx_yx FZ CV y x
  | none => false
noncomputable def fx_covB (FZ : List (List (Nat × Nat))) (CV : List Bool) (q : rx_M) (cd : List (List ax_I)) (s : Nat × Nat × Nat) : Bool := Nat.beq (rx_rc (rx_n q)) 0 && (Nat.beq (rx_rs (rx_n q)) 0 && (Nat.beq s.1 (rx_np (rx_n q)) && (Nat.beq s.2.1 (rx_rk (rx_n q)) && (Nat.beq s.2.2 (rx_mL (rx_n q)) && (rx_cd q).all (fun ch => ch.all (fx_cov1 FZ CV cd))))))
/-- how a method's answer is -/
noncomputable def fx_rt (rk v : Nat) : Prop := fx_wv v ∧ (rk = 0 → v = 2) ∧ (rk ≠ 0 → v % 4 = bif Nat.beq rk 3 then 1 else bif Nat.beq rk 4 then 2 else 0)
theorem fx_sbyt_ok : rx_sbyt.all (fun l => Nat.blt (rx_len l) 1000 && l.all (fun c => Nat.blt c 1000)) = true := by decide +kernel
theorem fx_wrd_ok {v : Nat} {l : List Nat} (h : rx_wrd v = some l) : rx_len l < 1000 ∧ ∀ c ∈ l, c < 1000 := by
  unfold rx_wrd at h
  obtain ⟨-, h⟩ := rx_cond h
  rw [rx_nth_eq] at h
  have := List.all_eq_true.mp fx_sbyt_ok l (List.mem_of_getElem? h)
  obtain ⟨h1, h2⟩ := rx_and2.mp this
  exact ⟨rx_blt.mp h1, fun c hc => rx_blt.mp (List.all_eq_true.mp h2 c hc)⟩
theorem fx_args_ws : ∀ {as : List Nat} {n : Nat}, fx_ws as → fx_ws (rx_args as n)
  | [], n, _ => by
    intro x hx
    rw [List.eq_of_mem_replicate (show x ∈ List.replicate n 2 from hx)]
    exact fx_wv_2
  | v :: as, n, h => by
    show fx_ws (bif rx_isJ v then v :: 2 :: rx_args as (n - 2) else v :: rx_args as (n - 1))
    cases rx_isJ v with
    | true => exact fx_ws_cons (fx_ws_hd h) (fx_ws_cons fx_wv_2 (fx_args_ws (fx_ws_tl h)))
    | false => exact fx_ws_cons (fx_ws_hd h) (fx_args_ws (fx_ws_tl h))
theorem fx_L.cons {lv : List fx_V} {lc : List Nat} (h : fx_L lv lc) {u : fx_V} {v : Nat} (huv : u.1 = 3 ∨ u = fx_d v) : fx_L (u :: lv) (v :: lc) := by
  refine ⟨by rw [List.length_cons, List.length_cons, h.1], fun i a b ha hb => ?_⟩
  cases i with
  | zero => cases ha; cases hb; exact huv
  | succ i => exact h.2 i a b ha hb
theorem fx_args_L : ∀ {as : List Nat} {n : Nat}, fx_L (fx_args (as.map fx_d) n) (rx_args as n)
  | [], n => by
    refine ⟨by show (List.replicate n ((3, 0) : fx_V)).length = (List.replicate n 2).length; rw [List.length_replicate, List.length_replicate], fun i a b ha hb => Or.inl ?_⟩
    have := List.mem_of_getElem? (show (List.replicate n ((3, 0) : fx_V))[i]? = some a from ha)
    rw [List.eq_of_mem_replicate this]
  | v :: as, n => by
    show fx_L (bif Nat.beq (v % 4) 1 then fx_d v :: (3, 0) :: fx_args (as.map fx_d) (n - 2) else fx_d v :: fx_args (as.map fx_d) (n - 1)) (bif Nat.beq (v % 4) 1 then v :: 2 :: rx_args as (n - 2) else v :: rx_args as (n - 1))
    cases Nat.beq (v % 4) 1 with
    | true => exact (fx_args_L.cons (Or.inl rfl)).cons (Or.inr rfl)
    | false => exact fx_args_L.cons (Or.inr rfl)
theorem fx_spl_ok : ∀ {n : Nat} {sc acc as rest : List Nat}, rx_spl n sc acc = some (as, rest) → fx_spl n (sc.map fx_d) (acc.map fx_d) = some (as.map fx_d, rest.map fx_d) ∧ (fx_ws sc → fx_ws acc → fx_ws as ∧ fx_ws rest)
  | 0, sc, acc, as, rest, h => by
    replace h : some (acc, sc) = some (as, rest) := h
    cases h
    exact ⟨rfl, fun a b => ⟨b, a⟩⟩
  | n + 1, [], acc, as, rest, h => by cases h
  | n + 1, v :: sc, acc, as, rest, h => by
    replace h : rx_spl n sc (v :: acc) = some (as, rest) := h
    obtain ⟨h1, h2⟩ := fx_spl_ok (n := n) h
    exact ⟨h1, fun a b => h2 (fx_ws_tl a) (fx_ws_cons (fx_ws_hd a) b)⟩
theorem fx_cpy_ok {w : ax_W} {FZ : List (List (Nat × Nat))} {K : rx_K} {pc : Nat} {lc sc : List Nat} {hp : rx_H} {σ : rx_S} (hFZ : FZ.length ≤ 12) (hl : fx_ws lc) (hs : fx_ws sc) (hH : fx_H w K.2 FZ hp) (h : rx_cpy pc lc sc hp [] 0 0 = some σ) : fx_wf w K.2 FZ σ ∧ σ.2.2.2.1.1 = hp.1 ∧ ∀ (NX : fx_N) (lv : List fx_V), fx_L lv lc → fx_Nx σ NX → (match sc.map fx_d with
    | _ :: _ :: d :: _ :: q :: st' => NX (Nat.add pc 3) lv st' (fcp (fx_hp hp) q.2 d.2)
    | _ => True) := by
  unfold rx_cpy at h
  match sc, hs, h with
  | n :: dp :: d :: sp :: q :: st', hs, h =>
    obtain ⟨hb, h⟩ := rx_cond h
    obtain ⟨b1, hb⟩ := rx_and2.mp hb
    obtain ⟨b2, hb⟩ := rx_and2.mp hb
    obtain ⟨b3, hb⟩ := rx_and2.mp hb
    obtain ⟨b4, hb⟩ := rx_and2.mp hb
    obtain ⟨b5, b6⟩ := rx_and2.mp hb
    have d2 : 2 ≤ d / 4 := rx_ble.mp b4
    have q2 : 2 ≤ q / 4 := rx_ble.mp b6
    cases hq : rx_hg hp (Nat.sub (rx_pl q) 2) with
    | none => rw [hq] at h; cases h
    | some zq =>
      cases hd : rx_hg hp (Nat.sub (rx_pl d) 2) with
      | none => rw [hq, hd] at h; cases h
      | some zd =>
        obtain ⟨t, m, l⟩ := zq
        obtain ⟨t2, m2, f2⟩ := zd
        rw [hq, hd] at h
        obtain ⟨hb, h1⟩ := rx_cond h
        obtain ⟨c1, hb⟩ := rx_and2.mp hb
        obtain ⟨c2, hb⟩ := rx_and2.mp hb
        obtain ⟨c3, hb⟩ := rx_and2.mp hb
        obtain ⟨c4, hb⟩ := rx_and2.mp hb
        have c1 := rx_beq.mp c1
        have c2 := rx_beq.mp c2
        have c4 := rx_beq.mp c4
        subst c1
        subst c2
        subst c4
        have hH' : fx_H w K.2 FZ (rx_hs hp (Nat.sub (rx_pl d) 2) (13, m, l)) := by
          refine ⟨hH.1, fun q' k' n' f' h' => ?_⟩
          rw [rx_hg_hs hH.1 (rx_hg_lt hd)] at h'
          by_cases hqq : q' = Nat.sub (rx_pl d) 2
          · rw [if_pos hqq] at h'
            cases h'
            obtain ⟨g1, g2, g3⟩ := hH.2 _ _ _ _ hq
            obtain ⟨e1, e2, e3⟩ := hH.2 _ _ _ _ hd
            rw [hqq]
            refine ⟨g1, e2, fun j u hu => ?_⟩
            obtain ⟨u1, u2, u3, u4⟩ := g3 j u hu
            have fz : fx_fz FZ 13 j = (0, 0) := by
              unfold fx_fz
              rw [rx_nth_eq, List.getElem?_eq_none_iff.mpr (Nat.le_trans hFZ (by decide))]
            exact ⟨u1, u2, fun z => (by rw [fz] at z; cases z), fun z => (by rw [fz] at z; cases z)⟩
          · rw [if_neg hqq] at h'
            exact hH.2 q' k' n' f' h'
        have hF : fx_hp (rx_hs hp (Nat.sub (rx_pl d) 2) (13, m, l)) = fcp (fx_hp hp) (q / 4) (d / 4) := by
          funext p j
          show fx_hp _ p j = bif Nat.beq p (d / 4) then fx_hp hp (q / 4) j else fx_hp hp p j
          unfold fx_hp
          rw [rx_hg_hs hH.1 (rx_hg_lt hd)]
          have ed : Nat.sub (rx_pl d) 2 = d / 4 - 2 := rfl
          have eq' : Nat.sub (rx_pl q) 2 = q / 4 - 2 := rfl
          rw [ed] at hd ⊢
          rw [eq'] at hq
          by_cases hpd : p = d / 4
          · subst hpd
            rw [show Nat.ble 2 (d / 4) = true from rx_ble.mpr d2, show Nat.ble 2 (q / 4) = true from rx_ble.mpr q2, if_pos rfl, Nat.beq_refl, hq]
            rfl
          · rw [show Nat.beq p (d / 4) = false from Bool.eq_false_iff.mpr (fun z => hpd (rx_beq.mp z)), cond_false]
            by_cases hp2 : 2 ≤ p
            · rw [if_neg (by omega)]
            · rw [show Nat.ble 2 p = false from Bool.eq_false_iff.mpr (fun z => hp2 (rx_ble.mp z))]
              rfl
        clear h
        cases h1
        refine ⟨⟨hl, fx_ws_tl (fx_ws_tl (fx_ws_tl (fx_ws_tl (fx_ws_tl hs)))), hH', rfl⟩, rfl, fun NX lv hL hN => ?_⟩
        have hN := hN lv hL
        rw [show fx_hp (rx_hs hp (Nat.sub (rx_pl d) 2) (13, m, l)) = fcp (fx_hp hp) (q / 4) (d / 4) from hF] at hN
        exact hN
end
section
section FXW
variable {w : ax_W} {FZ : List (List (Nat × Nat))} {P : List rx_M} {K : rx_K} {AP : List (List (List ax_I))} {SG : List (Nat × Nat × Nat)} {CV : List Bool}
/-- what is known of all methods that are told of -/
noncomputable def fx_All (w : ax_W) (FZ : List (List (Nat × Nat))) (P : List rx_M) (K : rx_K) (AP : List (List (List ax_I))) (SG : List (Nat × Nat × Nat)) (CV : List Bool) : Prop := FZ.length ≤ 12 ∧ (∀ p, fx_len w p < 4294967296) ∧ (∀ q ∈ P, rx_QW q ∧ rx_ST P K q) ∧ ∀ i, rx_nth CV i = some true → ∃ (q : rx_M) (cd : List (List ax_I)) (s : Nat × Nat × Nat), rx_nth P i = some q ∧ rx_nth AP i = some cd ∧ rx_nth SG i = some s ∧ fx_covB FZ CV q cd s = true
noncomputable def fx_wo (w : ax_W) (FK : List (List Nat)) (FZ : List (List (Nat × Nat))) (q : rx_M) (hp : rx_H) (o : rx_O) : Prop := fx_rt (rx_rk (rx_n q)) o.1 ∧ fx_H w FK FZ o.2.1 ∧ o.2.1.1 = hp.1 ∧ o.2.2 = []
/-- what holds of callees -/
noncomputable def fx_HG (w : ax_W) (FZ : List (List (Nat × Nat))) (P : List rx_M) (K : rx_K) (CV : List Bool) (g : rx_M → rx_S → Option (List rx_O)) : Prop := ∀ (j : Nat) (q : rx_M), rx_nth CV j = some true → rx_nth P j = some q → ∀ (pc : Nat) (lc sc : List Nat) (hp : rx_H) (l : List rx_O), fx_ws lc → fx_ws sc → fx_H w K.2 FZ hp → g q (pc, lc, sc, hp, [], 0, 0) = some l → ∃ o, l = [o] ∧ fx_wo w K.2 FZ q hp o
noncomputable def fx_HC (w : ax_W) (FZ : List (List (Nat × Nat))) (P : List rx_M) (K : rx_K) (CV : List Bool) (g : rx_M → rx_S → Option (List rx_O)) (C : fx_C) : Prop := ∀ (j : Nat) (q : rx_M) (as : List Nat) (hp : rx_H) (o : rx_O), rx_nth CV j = some true → rx_nth P j = some q → fx_ws as → fx_H w K.2 FZ hp → g q (0, rx_args as (rx_mL (rx_n q)), [], hp, [], 0, 0) = some [o] → C j (as.map fx_d) (fx_hp hp) (fx_d o.1) (fx_hp o.2.1)
theorem fx_all1 {α β : Type} {f : α → Option (List β)} {x : α} {b : List β} (h : rx_all f [x] = some b) : f x = some b := h
theorem fx_iret_ok {q : rx_M} {sc : List Nat} {hp : rx_H} {l : List rx_O} {kind : Nat} {pc : Nat} (hs : fx_ws sc) (hH : fx_H w K.2 FZ hp) (h : (kind = 1 ∧ rx_iret (rx_n q) sc hp [] 0 0 = some l) ∨ (kind = 3 ∧ rx_vret (rx_n q) sc hp [] 0 0 = some l) ∨ (kind = 2 ∧ rx_lret (rx_n q) sc hp [] 0 0 = some l) ∨ (kind = 6 ∧ rx_aret (rx_n q) sc hp [] 0 0 = some l)) : ∃ v, l = [(v, hp, [])] ∧ fx_rt (rx_rk (rx_n q)) v ∧ ∀ (R : fx_V → fx_F → Prop), R (fx_d v) (fx_hp hp) → (match sc.map fx_d with
    | [] => R (2, 0) (fx_hp hp)
    | v :: _ => R v (fx_hp hp)) := by
  rcases h with ⟨-, h⟩ | ⟨-, h⟩ | ⟨-, h⟩ | ⟨-, h⟩
  · unfold rx_iret at h
    match sc, hs, h with
    | [v], hs, h =>
      obtain ⟨hb, h⟩ := rx_cond h
      rw [ax_kn] at h hb
      cases h
      have wv := fx_ws_hd hs
      refine ⟨v, rfl, ⟨wv, fun z => ?_, fun _ => ?_⟩, fun R h => h⟩
      · obtain ⟨-, hb⟩ := rx_and2.mp hb
        rw [z] at hb
        cases hb
      · obtain ⟨-, hb⟩ := rx_and2.mp hb
        rcases rx_or2.mp hb with hb | hb
        · obtain ⟨a, b⟩ := rx_and2.mp hb
          rw [rx_beq.mp a]
          exact fx_isI wv b
        · obtain ⟨a, b⟩ := rx_and2.mp hb
          rw [rx_beq.mp a]
          rcases rx_or2.mp b with b | b <;> rw [rx_beq.mp b] <;> rfl
  · unfold rx_vret at h
    match sc, hs, h with
    | [], hs, h =>
      obtain ⟨hb, h⟩ := rx_cond h
      cases h
      obtain ⟨a, -⟩ := rx_and2.mp hb
      exact ⟨2, rfl, ⟨fx_wv_2, fun _ => rfl, fun z => absurd (rx_beq.mp a) z⟩, fun R h => h⟩
  · unfold rx_lret at h
    match sc, hs, h with
    | [v], hs, h =>
      obtain ⟨hb, h⟩ := rx_cond h
      cases h
      obtain ⟨-, hb⟩ := rx_and2.mp hb
      obtain ⟨a, b⟩ := rx_and2.mp hb
      have a := rx_beq.mp a
      exact ⟨v, rfl, ⟨fx_ws_hd hs, fun z => (by rw [a] at z; cases z), fun _ => (by rw [a]; exact rx_beq.mp b)⟩, fun R h => h⟩
  · unfold rx_aret at h
    match sc, hs, h with
    | [v], hs, h =>
      obtain ⟨hb, h⟩ := rx_cond h
      cases h
      obtain ⟨-, hb⟩ := rx_and2.mp hb
      obtain ⟨a, b⟩ := rx_and2.mp hb
      have a := rx_beq.mp a
      exact ⟨v, rfl, ⟨fx_ws_hd hs, fun z => (by rw [a] at z; cases z), fun _ => (by rw [a]; exact rx_beq.mp b)⟩, fun R h => h⟩
theorem fx_mx {u v : Nat} (b1 : v % 4 = 0) (b2 : u % 4 = 0) : fx_d (bif Nat.blt (rx_bi (v / 4)) (rx_bi (u / 4)) then u else v) = (0, i_max (v / 4) (u / 4)) := by
  rw [i_max_eq]
  cases Nat.blt (rx_bi (v / 4)) (rx_bi (u / 4)) with
  | true => exact fx_eint b2
  | false => exact fx_eint b1
theorem fx_mn {u v : Nat} (b1 : v % 4 = 0) (b2 : u % 4 = 0) : fx_d (bif Nat.blt (rx_bi (u / 4)) (rx_bi (v / 4)) then u else v) = (0, i_min (v / 4) (u / 4)) := by
  rw [i_min_eq]
  cases Nat.blt (rx_bi (u / 4)) (rx_bi (v / 4)) with
  | true => exact fx_eint b2
  | false => exact fx_eint b1
/-- how one instruction of a run goes: on to a state, or back -/
noncomputable def fx_S (w : ax_W) (FZ : List (List (Nat × Nat))) (P : List rx_M) (K : rx_K) (SG : List (Nat × Nat × Nat)) (CV : List Bool) (g f : rx_M → rx_S → Option (List rx_O)) (q : rx_M) (x : ax_I) (pc : Nat) (lc sc : List Nat) (hp : rx_H) (l : List rx_O) : Prop :=
  (∃ σ, fx_wf w K.2 FZ σ ∧ σ.2.2.2.1.1 = hp.1 ∧ f q σ = some l ∧ ∀ (NX : fx_N) (C : fx_C) (R : fx_V → fx_F → Prop) (lv : List fx_V), fx_HC w FZ P K CV g C → fx_L lv lc → fx_Nx σ NX → fx_go w K.2 FZ SG NX C R x pc lv (sc.map fx_d) (fx_hp hp)) ∨
  (∃ v, l = [(v, hp, [])] ∧ fx_rt (rx_rk (rx_n q)) v ∧ ∀ (NX : fx_N) (C : fx_C) (R : fx_V → fx_F → Prop) (lv : List fx_V), R (fx_d v) (fx_hp hp) → fx_go w K.2 FZ SG NX C R x pc lv (sc.map fx_d) (fx_hp hp))
theorem fx_step (hA : fx_All w FZ P K AP SG CV) {g f : rx_M → rx_S → Option (List rx_O)} (hg : fx_HG w FZ P K CV g) {i : Nat} (hi : rx_nth CV i = some true) {q : rx_M} (hq : rx_nth P i = some q) {cd : List (List ax_I)} (hcd : rx_nth AP i = some cd) {pc : Nat} {lc sc : List Nat} {hp : rx_H} {l : List rx_O} (hl : fx_ws lc) (hs : fx_ws sc) (hH : fx_H w K.2 FZ hp) (h : rx_go P K g f (fun o => some [o]) q (pc, lc, sc, hp, [], 0, 0) = some l) : ∃ x, ax_lookI cd pc = some x ∧ fx_S w FZ P K SG CV g f q x pc lc sc hp l := by
  obtain ⟨hFZ, hn, hP, hall⟩ := hA
  have hqP : q ∈ P := by rw [rx_nth_eq] at hq; exact List.mem_of_getElem? hq
  obtain ⟨q', cd', s, e1, e2, e3, hcov⟩ := hall i hi
  rw [hq] at e1
  cases e1
  rw [hcd] at e2
  cases e2
  obtain ⟨v1, hcov⟩ := rx_and2.mp hcov
  obtain ⟨v2, hcov⟩ := rx_and2.mp hcov
  obtain ⟨v3, hcov⟩ := rx_and2.mp hcov
  obtain ⟨v4, hcov⟩ := rx_and2.mp hcov
  obtain ⟨v5, hcov⟩ := rx_and2.mp hcov
  unfold rx_go at h
  dsimp only at h
  cases hlk : rx_look (rx_cd q) pc with
  | none => rw [hlk] at h; cases h
  | some y =>
    rw [hlk] at h
    dsimp only at h
    obtain ⟨⟨ch, hc1, hc2⟩, hpc⟩ := rx_look_ok hlk
    obtain ⟨o1, o2, o3, o4, o5⟩ := (hP q hqP).2 ch hc1 y hc2
    have hy := List.all_eq_true.mp (List.all_eq_true.mp hcov ch hc1) y hc2
    unfold fx_cov1 at hy
    rw [hpc] at hy
    cases hx : ax_lookI cd pc with
    | none => rw [hx] at hy; cases hy
    | some x =>
      rw [hx] at hy
      refine ⟨x, rfl, ?_⟩
      have hxpc := (ax_lookI_ok hx).2
      obtain ⟨n1, hy⟩ := rx_and2.mp hy
      obtain ⟨n2, hy⟩ := rx_and2.mp hy
      obtain ⟨n3, n4⟩ := rx_and2.mp hy
      have n1 : y.2.2.2.2.2.1 = x.2.2.2.2.1 := rx_beq.mp n1
      have n2 : y.2.2.2.2.2.2.1 = x.2.2.2.2.2.1 := rx_beq.mp n2
      rw [n1, n2] at h
      obtain ⟨xpc, o, ii, j, na, nb, tg⟩ := x
      replace hxpc : xpc = pc := hxpc
      subst hxpc
      dsimp only at h n4
      rcases ax_tabY_ok n3 with ⟨k25, knum, -⟩ | ⟨k25, kctl⟩
      · -- a step
        replace k25 : o ≤ 25 := k25
        replace knum : ax_num xpc y.2.2.2.1 = some (o, ii, j, tg) := knum
        rw [rx_ble.mpr k25, cond_true] at n4
        have hk0 : rx_kd y.2.2.2.1 = 0 := by
          cases hins : y.2.2.2.1 <;> rw [hins] at knum <;> first | rfl | cases knum
        have k0 : y.2.1 = 0 := o2.trans hk0
        unfold rx_do at h
        rw [k0, o3 k0] at h
        replace h : rx_nxt f q (rx_sem y.2.2.2.1 K (rx_n q) xpc na nb lc sc hp [] 0 0) = some l := h
        cases hsem : rx_sem y.2.2.2.1 K (rx_n q) xpc na nb lc sc hp [] 0 0 with
        | none => rw [hsem] at h; cases h
        | some l' =>
          rw [hsem] at h
          have hsl : rx_sl (rx_n q) = 0 := (hP q hqP).1.2.2.2.2.2.2.1
          obtain ⟨σ, rfl, h1, h2, h3⟩ := fx_step_ok hFZ hn hsl knum n4 hl hs hH hsem
          refine Or.inl ⟨σ, h1, h2, fx_all1 h, fun NX C R lv _ hL hN => ?_⟩
          unfold fx_go
          rw [rx_ble.mpr k25, cond_true]
          exact h3 NX lv hL hN
      · replace k25 : 25 < o := k25
        replace kctl : ax_ctl y.2.2.2.1 = some o := kctl
        have hn25 : Nat.ble o 25 = false := Bool.eq_false_iff.mpr (fun z => by have := rx_ble.mp z; omega)
        rw [hn25, cond_false] at n4
        by_cases h29 : o ≤ 29
        · -- back
          have main : ∀ kind, rx_kd y.2.2.2.1 = kind → ((kind = 1 ∧ rx_iret (rx_n q) sc hp [] 0 0 = some l) ∨ (kind = 3 ∧ rx_vret (rx_n q) sc hp [] 0 0 = some l) ∨ (kind = 2 ∧ rx_lret (rx_n q) sc hp [] 0 0 = some l) ∨ (kind = 6 ∧ rx_aret (rx_n q) sc hp [] 0 0 = some l)) → fx_S w FZ P K SG CV g f q (xpc, o, ii, j, na, nb, tg) xpc lc sc hp l := by
            intro kind _ hh
            obtain ⟨v, rfl, hv, hR⟩ := fx_iret_ok (w := w) (FZ := FZ) (K := K) (pc := xpc) hs hH hh
            refine Or.inr ⟨v, rfl, hv, fun NX C R lv hr => ?_⟩
            unfold fx_go
            rw [hn25, cond_false]
            unfold fx_go2
            rw [rx_ble.mpr h29, cond_true]
            exact hR R hr
          have out1 : ∀ (o : Option (List rx_O)), (∀ l0, o = some l0 → ∃ z, l0 = [z]) → rx_out (fun o => some [o]) o = some l → o = some l := by
            intro o ho h
            cases o with
            | none => cases h
            | some l0 =>
              obtain ⟨z, rfl⟩ := ho l0 rfl
              exact h
          have one : ∀ kind, ∀ l0, ((kind = 1 ∧ rx_iret (rx_n q) sc hp [] 0 0 = some l0) ∨ (kind = 3 ∧ rx_vret (rx_n q) sc hp [] 0 0 = some l0) ∨ (kind = 2 ∧ rx_lret (rx_n q) sc hp [] 0 0 = some l0) ∨ (kind = 6 ∧ rx_aret (rx_n q) sc hp [] 0 0 = some l0)) → ∃ z, l0 = [z] := by
            intro kind l0 hh
            obtain ⟨v, hv, -⟩ := fx_iret_ok (w := w) (FZ := FZ) (K := K) (pc := xpc) hs hH hh
            exact ⟨_, hv⟩
          unfold rx_do at h
          rw [o2] at h
          cases hins : y.2.2.2.1 <;> rw [hins] at kctl h main <;> first
            | (cases kctl; omega)
            | exact main 1 rfl (Or.inl ⟨rfl, out1 _ (fun l0 h0 => one 1 l0 (Or.inl ⟨rfl, h0⟩)) h⟩)
            | exact main 3 rfl (Or.inr (Or.inl ⟨rfl, out1 _ (fun l0 h0 => one 3 l0 (Or.inr (Or.inl ⟨rfl, h0⟩))) h⟩))
            | exact main 2 rfl (Or.inr (Or.inr (Or.inl ⟨rfl, out1 _ (fun l0 h0 => one 2 l0 (Or.inr (Or.inr (Or.inl ⟨rfl, h0⟩)))) h⟩)))
            | exact main 6 rfl (Or.inr (Or.inr (Or.inr ⟨rfl, out1 _ (fun l0 h0 => one 6 l0 (Or.inr (Or.inr (Or.inr ⟨rfl, h0⟩)))) h⟩)))
            | cases kctl
        · -- a call
          have hn29 : Nat.ble o 29 = false := Bool.eq_false_iff.mpr (fun z => h29 (rx_ble.mp z))
          rw [hn29, cond_false] at n4
          have hstat : ∃ stat : Bool, rx_call stat P g f q xpc na nb lc sc hp [] 0 0 = some l ∧ Nat.beq o 31 = stat ∧ (o = 30 ∨ o = 31) := by
            rcases ax_ctl_call kctl (by omega) with ⟨e, ek⟩ | ⟨e, ek⟩
            · refine ⟨false, ?_, by rw [e]; rfl, Or.inl e⟩
              unfold rx_do at h
              rw [o2, ek] at h
              exact h
            · refine ⟨true, ?_, by rw [e]; rfl, Or.inr e⟩
              unfold rx_do at h
              rw [o2, ek] at h
              exact h
          obtain ⟨stat, hcall, hst, ho⟩ := hstat
          have go2 : ∀ (NX : fx_N) (C : fx_C) (R : fx_V → fx_F → Prop) (lv : List fx_V), fx_go2 SG NX C R (xpc, o, ii, j, na, nb, tg) xpc lv (sc.map fx_d) (fx_hp hp) → fx_go w K.2 FZ SG NX C R (xpc, o, ii, j, na, nb, tg) xpc lv (sc.map fx_d) (fx_hp hp) := by
            intro NX C R lv hgo
            unfold fx_go
            rw [hn25, cond_false]
            exact hgo
          unfold fx_okC at n4
          dsimp only at n4
          unfold rx_call at hcall
          refine Or.inl ?_
          rcases ax_condY hcall with ⟨d, hcall⟩ | ⟨d1, hcall⟩
          · -- Object's constructor: not there
            rw [rx_beq.mp d] at n4
            rcases ax_condY n4 with ⟨z, -⟩ | ⟨-, n4⟩
            · cases z
            rcases ax_condY n4 with ⟨-, n4⟩ | ⟨z, -⟩
            · rcases ax_condY n4 with ⟨-, n4⟩ | ⟨-, n4⟩
              · cases n4
              · cases n4
            · cases z
          rcases ax_condY hcall with ⟨d, hcall⟩ | ⟨d2, hcall⟩
          · -- arraycopy
            unfold rx_inv2 at hcall
            cases hz : rx_cpy xpc lc sc hp [] 0 0 with
            | none => rw [hz] at hcall; cases hcall
            | some σ =>
              rw [hz] at hcall
              obtain ⟨-, hf⟩ := rx_cond hcall
              obtain ⟨g1, g2, g3⟩ := fx_cpy_ok hFZ hl hs hH hz
              refine ⟨σ, g1, g2, hf, fun NX C R lv _ hL hN => go2 NX C R lv ?_⟩
              unfold fx_go2
              rw [hn29, cond_false]
              dsimp only
              rw [d, cond_true]
              exact g3 NX lv hL hN
          rw [d2, cond_false] at n4
          rcases ax_condY hcall with ⟨d, hcall⟩ | ⟨d3, hcall⟩
          · rw [show Nat.beq (Nat.mod nb 4) 1 = true from d, cond_true] at n4
            cases stat with
            | true =>
              replace hcall : rx_invP f q xpc (Nat.div nb 4) lc sc hp [] 0 0 = some l := hcall
              rw [hst, cond_true] at n4
              unfold rx_invP at hcall
              cases hz : rx_prim (Nat.div nb 4) sc with
              | none => rw [hz] at hcall; cases hcall
              | some st' =>
                rw [hz] at hcall
                obtain ⟨-, hf⟩ := rx_cond hcall
                unfold rx_prim at hz
                match sc, hs, hz with
                | [], hs, hz => cases hz
                | [_], hs, hz => cases hz
                | u :: v :: s', hs, hz =>
                  obtain ⟨hb, hz⟩ := rx_cond hz
                  obtain ⟨b1, b2⟩ := rx_and2.mp hb
                  have b1 : v % 4 = 0 := rx_beq.mp b1
                  have b2 : u % 4 = 0 := rx_beq.mp b2
                  have key : ∃ r, st' = r :: s' ∧ fx_wv r ∧ fx_d r = (0, bif Nat.beq nb 5 then i_max (v / 4) (u / 4) else i_min (v / 4) (u / 4)) := by
                    rcases rx_or2.mp n4 with n4 | n4
                    · rw [rx_beq.mp n4] at hz ⊢
                      rw [show rx_pl v = v / 4 from rfl, show rx_pl u = u / 4 from rfl] at hz
                      replace hz : some ((bif Nat.blt (rx_bi (v / 4)) (rx_bi (u / 4)) then u else v) :: s') = some st' := hz
                      refine ⟨_, (Option.some.inj hz).symm, ?_, ?_⟩
                      · cases Nat.blt (rx_bi (v / 4)) (rx_bi (u / 4)) with
                        | true => exact fx_ws_hd hs
                        | false => exact fx_ws_hd (fx_ws_tl hs)
                      · rw [show Nat.beq 5 5 = true from rfl, cond_true]
                        exact fx_mx b1 b2
                    · rw [rx_beq.mp n4] at hz ⊢
                      rw [show rx_pl v = v / 4 from rfl, show rx_pl u = u / 4 from rfl] at hz
                      replace hz : some ((bif Nat.blt (rx_bi (u / 4)) (rx_bi (v / 4)) then u else v) :: s') = some st' := hz
                      refine ⟨_, (Option.some.inj hz).symm, ?_, ?_⟩
                      · cases Nat.blt (rx_bi (u / 4)) (rx_bi (v / 4)) with
                        | true => exact fx_ws_hd hs
                        | false => exact fx_ws_hd (fx_ws_tl hs)
                      · rw [show Nat.beq 9 5 = false from rfl, cond_false]
                        exact fx_mn b1 b2
                  obtain ⟨r, rfl, r1, r2⟩ := key
                  refine ⟨_, ⟨hl, fx_ws_cons r1 (fx_ws_tl (fx_ws_tl hs)), hH, rfl⟩, rfl, hf, fun NX C R lv _ hL hN => go2 NX C R lv ?_⟩
                  have hN := hN lv hL
                  unfold fx_go2
                  rw [hn29, cond_false]
                  dsimp only
                  rw [d2, cond_false, d1, cond_false, show Nat.beq (Nat.mod nb 4) 1 = true from d, cond_true, hst, cond_true]
                  rw [List.map_cons, r2] at hN
                  exact hN
            | false =>
              replace hcall : rx_invS f q xpc (Nat.div nb 4) lc sc hp [] 0 0 = some l := hcall
              unfold rx_invS at hcall
              cases hz : rx_primS (Nat.div nb 4) sc with
              | none => rw [hz] at hcall; cases hcall
              | some st' =>
                rw [hz] at hcall
                obtain ⟨-, hf⟩ := rx_cond hcall
                rw [hst, cond_false] at n4
                have hw : fx_ws st' ∧ ∀ (NX : fx_N) (lv : List fx_V), NX (Nat.add xpc 3) lv (st'.map fx_d) (fx_hp hp) → fx_str NX nb xpc lv (sc.map fx_d) (fx_hp hp) := by
                  rcases rx_or2.mp n4 with n4 | n4
                  · have e := rx_beq.mp n4
                    subst e
                    match sc, hs, hz with
                    | [], hs, hz => cases hz
                    | v :: s', hs, hz =>
                      replace hz : rx_primL v s' = some st' := hz
                      unfold rx_primL at hz
                      cases hw : rx_wrd v with
                      | none => rw [hw] at hz; cases hz
                      | some lw =>
                        rw [hw] at hz
                        cases hz
                        have := (fx_wrd_ok hw).1
                        refine ⟨fx_ws_cons (fx_wv_int (by omega)) (fx_ws_tl hs), fun NX lv h => ⟨rx_len lw, ?_⟩⟩
                        rw [List.map_cons, show fx_d (rx_int (rx_len lw)) = (0, rx_len lw) by unfold fx_d; rw [show rx_int (rx_len lw) % 4 = 0 by show 4 * rx_len lw % 4 = 0; omega, show rx_int (rx_len lw) / 4 = rx_len lw by show 4 * rx_len lw / 4 = _; omega]] at h
                        exact h
                  · have e := rx_beq.mp n4
                    subst e
                    match sc, hs, hz with
                    | [], hs, hz => cases hz
                    | v :: s', hs, hz =>
                      replace hz : rx_primC v s' = some st' := hz
                      unfold rx_primC at hz
                      match s', hs, hz with
                      | [], hs, hz => cases hz
                      | u :: s2, hs, hz =>
                        dsimp only at hz
                        cases hw : rx_wrd u with
                        | none => rw [hw] at hz; cases hz
                        | some lw =>
                          rw [hw] at hz
                          obtain ⟨-, hz⟩ := rx_cond hz
                          rw [rx_nth_eq] at hz
                          cases hc : lw[rx_pl v]? with
                          | none => rw [hc] at hz; cases hz
                          | some c =>
                            rw [hc] at hz
                            cases hz
                            have := (fx_wrd_ok hw).2 c (List.mem_of_getElem? hc)
                            refine ⟨fx_ws_cons (fx_wv_int (by omega)) (fx_ws_tl (fx_ws_tl hs)), fun NX lv h => ⟨c, ?_⟩⟩
                            rw [List.map_cons, show fx_d (rx_int c) = (0, c) by unfold fx_d; rw [show rx_int c % 4 = 0 by show 4 * c % 4 = 0; omega, show rx_int c / 4 = c by show 4 * c / 4 = _; omega]] at h
                            exact h
                refine ⟨_, ⟨hl, hw.1, hH, rfl⟩, rfl, hf, fun NX C R lv _ hL hN => go2 NX C R lv ?_⟩
                have hN := hN lv hL
                unfold fx_go2
                rw [hn29, cond_false]
                dsimp only
                rw [d2, cond_false, d1, cond_false, show Nat.beq (Nat.mod nb 4) 1 = true from d, cond_true, hst, cond_false]
                exact hw.2 NX lv hN
          · -- a method of the table
            rw [show Nat.beq (Nat.mod nb 4) 1 = false from d3, cond_false] at n4
            have hcv : rx_nth CV na = some true := by
              cases hz : rx_nth CV na with
              | none => rw [hz] at n4; cases n4
              | some b => rw [hz] at n4; rw [show b = true from n4]
            obtain ⟨q2, cd2, s2, m1, m2, m3, hcov2⟩ := hall na hcv
            obtain ⟨u1, hcov2⟩ := rx_and2.mp hcov2
            obtain ⟨u2, hcov2⟩ := rx_and2.mp hcov2
            obtain ⟨u3, hcov2⟩ := rx_and2.mp hcov2
            obtain ⟨u4, -⟩ := rx_and2.mp hcov2
            have u1 : rx_rc (rx_n q2) = 0 := rx_beq.mp u1
            have u2 : rx_rs (rx_n q2) = 0 := rx_beq.mp u2
            have u3 : s2.1 = rx_np (rx_n q2) := rx_beq.mp u3
            have u4 : s2.2.1 = rx_rk (rx_n q2) := rx_beq.mp u4
            unfold rx_inv at hcall
            rw [m1] at hcall
            dsimp only at hcall
            cases hsp : rx_spl (bif stat then rx_np (rx_n q2) else Nat.succ (rx_np (rx_n q2))) sc [] with
            | none => rw [hsp] at hcall; cases hcall
            | some wr =>
              obtain ⟨as, rest⟩ := wr
              rw [hsp] at hcall
              obtain ⟨-, hcall⟩ := rx_cond hcall
              obtain ⟨sp1, sp2⟩ := fx_spl_ok hsp
              obtain ⟨was, wrest⟩ := sp2 hs (fun x hx => by cases hx)
              unfold rx_inv3 at hcall
              cases hout : g q2 (0, rx_args as (rx_mL (rx_n q2)), [], hp, [], 0, 0) with
              | none => rw [hout] at hcall; cases hcall
              | some outs =>
                rw [hout] at hcall
                obtain ⟨oo, rfl, w1, w2, w3, w4⟩ := hg na q2 hcv m1 0 _ [] hp outs (fx_args_ws was) (fun x hx => by cases hx) hH hout
                replace hcall : rx_beh f q (rx_n q2) xpc lc rest 0 0 oo = some l := hcall
                unfold rx_beh at hcall
                rw [u1, u2, w4] at hcall
                have hrest : fx_ws (bif Nat.beq (rx_rk (rx_n q2)) 0 then rest else oo.1 :: rest) := by
                  cases Nat.beq (rx_rk (rx_n q2)) 0 with
                  | true => exact wrest
                  | false => exact fx_ws_cons w1.1 wrest
                refine ⟨_, ⟨hl, hrest, w2, rfl⟩, w3, hcall, fun NX C R lv hC hL hN => go2 NX C R lv ?_⟩
                have hN := hN lv hL
                have hc := hC na q2 as hp oo hcv m1 was hH hout
                unfold fx_go2
                rw [hn29, cond_false]
                dsimp only
                rw [d2, cond_false, d1, cond_false, show Nat.beq (Nat.mod nb 4) 1 = false from d3, cond_false, m3]
                dsimp only
                rw [hst, u3, show fx_spl (bif stat then rx_np (rx_n q2) else Nat.succ (rx_np (rx_n q2))) (sc.map fx_d) [] = some (as.map fx_d, rest.map fx_d) from sp1]
                unfold fx_cl2
                dsimp only
                rw [u4]
                cases hrk : Nat.beq (rx_rk (rx_n q2)) 0 with
                | true =>
                  rw [hrk] at hN
                  have := w1.2.1 (rx_beq.mp hrk)
                  rw [this] at hc
                  exact ⟨_, hc, hN⟩
                | false =>
                  rw [hrk] at hN
                  have := w1.2.2 (fun z => by rw [rx_beq.mpr z] at hrk; cases hrk)
                  have ed : fx_d oo.1 = (bif Nat.beq (rx_rk (rx_n q2)) 3 then 1 else bif Nat.beq (rx_rk (rx_n q2)) 4 then 2 else 0, oo.1 / 4) := by
                    rw [← this]
                    rfl
                  rw [ed] at hc
                  replace hN : NX (Nat.add xpc 3) lv (fx_d oo.1 :: rest.map fx_d) (fx_hp oo.2.1) := hN
                  rw [ed] at hN
                  exact ⟨_, _, hc, hN⟩
/-- a run has one outcome, and it is a good one -/
theorem fx_A (hA : fx_All w FZ P K AP SG CV) : ∀ n, fx_HG w FZ P K CV (rx_run P K n)
  | 0 => fun j q hj hq pc lc sc hp l _ _ _ h => by cases h
  | n + 1 => fun j q hj hq pc lc sc hp l hl hs hH h => by
    obtain ⟨q', cd, s, e1, e2, e3, -⟩ := hA.2.2.2 j hj
    have ih := fx_A hA n
    obtain ⟨x, hx, hS⟩ := fx_step hA (f := rx_run P K n) ih hj hq e2 hl hs hH h
    rcases hS with ⟨σ, ⟨w1, w2, w3, w4⟩, hc, hf, -⟩ | ⟨v, rfl, hv, -⟩
    · obtain ⟨p, a, b, hp', rest⟩ := σ
      replace w4 : rest = ([], 0, 0) := w4
      subst w4
      obtain ⟨o, rfl, z1, z2, z3, z4⟩ := ih j q hj hq p a b hp' l w1 w2 w3 hf
      exact ⟨o, rfl, z1, z2, z3.trans hc, z4⟩
    · exact ⟨_, rfl, hv, hH, rfl, rfl⟩
/-- a run of method i that ends so, within n instructions -/
noncomputable def fx_R (w : ax_W) (FZ : List (List (Nat × Nat))) (P : List rx_M) (K : rx_K) (n i pc : Nat) (lv st : List fx_V) (F : fx_F) (v : fx_V) (F' : fx_F) : Prop := ∃ (q : rx_M) (lc sc : List Nat) (hp : rx_H) (o : rx_O), rx_nth P i = some q ∧ fx_ws lc ∧ fx_ws sc ∧ fx_H w K.2 FZ hp ∧ fx_L lv lc ∧ sc.map fx_d = st ∧ fx_hp hp = F ∧ rx_run P K n q (pc, lc, sc, hp, [], 0, 0) = some [o] ∧ fx_d o.1 = v ∧ fx_hp o.2.1 = F'
/-- a call -/
noncomputable def fx_E (w : ax_W) (FZ : List (List (Nat × Nat))) (P : List rx_M) (K : rx_K) (SG : List (Nat × Nat × Nat)) : fx_C := fun i as F v F' => ∃ (n : Nat) (s : Nat × Nat × Nat), rx_nth SG i = some s ∧ fx_R w FZ P K n i 0 (fx_args as s.2.2) [] F v F'
theorem fx_mask_L : ∀ {m : List Nat} {lv : List fx_V} {lc : List Nat}, fx_L lv lc → fx_L (fx_mask m lv) lc
  | [], lv, lc, h => h
  | _ :: _, [], lc, h => h
  | b :: m, v :: lv, [], h => by cases h.1
  | b :: m, v :: lv, c :: lc, h => by
    have h0 := h.2 0 v c rfl rfl
    have ht : fx_L lv lc := ⟨Nat.succ.inj h.1, fun i u z hu hz => h.2 (i + 1) u z hu hz⟩
    show fx_L ((bif Nat.beq b 0 then (3, 0) else v) :: fx_mask m lv) (c :: lc)
    refine (fx_mask_L ht).cons ?_
    cases Nat.beq b 0 with
    | true => exact Or.inl rfl
    | false => exact h0
/-- instructions on -/
theorem fx_P_ok (hA : fx_All w FZ P K AP SG CV) {i n : Nat} (hi : rx_nth CV i = some true) {cd : List (List ax_I)} (hcd : rx_nth AP i = some cd) {hd : List (Nat × List Nat)} {v : fx_V} {F' : fx_F} : ∀ (k n' : Nat), n' ≤ n → ∀ (pc : Nat) (lv st : List fx_V) (F : fx_F), fx_R w FZ P K n' i pc lv st F v F' → fx_P w K.2 FZ SG cd hd (fx_E w FZ P K SG) (fun pc lv st F => ∃ m, m < n ∧ fx_R w FZ P K m i pc lv st F v F') (fun a b => v = a ∧ F' = b) k pc lv st F
  | 0, _, _, _, _, _, _, _ => trivial
  | k + 1, 0, _, pc, lv, st, F, h => by
    obtain ⟨q, lc, sc, hp, o, h1, h2, h3, h4, h5, h6, h7, h8, h9, h10⟩ := h
    cases h8
  | k + 1, n' + 1, hn, pc, lv, st, F, h => by
    obtain ⟨q, lc, sc, hp, o, h1, h2, h3, h4, h5, h6, h7, h8, h9, h10⟩ := h
    obtain ⟨x, hx, hS⟩ := fx_step hA (f := rx_run P K n') (fx_A hA n') hi h1 hcd h2 h3 h4 h8
    show (match ax_lookI cd pc with
      | some x => fx_go w K.2 FZ SG (fx_nx hd _ (fx_P w K.2 FZ SG cd hd _ _ _ k)) _ _ x x.1 lv st F
      | none => True)
    rw [hx]
    dsimp only
    rw [(ax_lookI_ok hx).2]
    subst h6
    subst h7
    rcases hS with ⟨σ, ⟨w1, w2, w3, w4⟩, hc, hf, hgo⟩ | ⟨v', hl, hv, hgo⟩
    · refine hgo _ _ _ lv ?_ h5 ?_
      · intro j q2 as hp2 o2 hj hq2 was hH2 hrun
        obtain ⟨q3, cd3, s3, e1, e2, e3, hcov⟩ := hA.2.2.2 j hj
        rw [hq2] at e1
        cases e1
        obtain ⟨_, hcov⟩ := rx_and2.mp hcov
        obtain ⟨_, hcov⟩ := rx_and2.mp hcov
        obtain ⟨_, hcov⟩ := rx_and2.mp hcov
        obtain ⟨_, hcov⟩ := rx_and2.mp hcov
        obtain ⟨v5, hcov⟩ := rx_and2.mp hcov
        have v5 : s3.2.2 = rx_mL (rx_n q2) := rx_beq.mp v5
        refine ⟨n', s3, e3, q2, _, [], hp2, o2, hq2, fx_args_ws was, fun x hx => (by cases hx), hH2, ?_, rfl, rfl, hrun, rfl, rfl⟩
        rw [v5]
        exact fx_args_L
      · intro lv' hL'
        obtain ⟨p, a, b, hp', rest⟩ := σ
        replace w4 : rest = ([], 0, 0) := w4
        subst w4
        have hR : ∀ lv2, fx_L lv2 a → fx_R w FZ P K n' i p lv2 (b.map fx_d) (fx_hp hp') v F' := fun lv2 hL2 => ⟨q, a, b, hp', o, h1, w1, w2, w3, hL2, rfl, rfl, hf, h9, h10⟩
        unfold fx_nx
        cases hh : fx_hd hd p with
        | none => exact fx_P_ok hA hi hcd k n' (by omega) p lv' _ _ (hR lv' hL')
        | some m => exact ⟨n', by omega, hR _ (fx_mask_L hL')⟩
    · refine hgo _ _ _ lv ⟨?_, ?_⟩
      · rw [← h9]
        cases hl
        rfl
      · rw [← h10]
        cases hl
        rfl
end FXW
end
section
/-! fx: calls run inline -/
noncomputable def fx_tg4 (rk : Nat) : Nat := bif Nat.beq rk 3 then 1 else bif Nat.beq rk 4 then 2 else 0
abbrev fx_HH : Type := Nat → List fx_V → fx_F → (fx_V → fx_F → Prop) → Prop
noncomputable def fx_H0 (SG : List (Nat × Nat × Nat)) (C : fx_C) : fx_HH := fun na as F Kt => match rx_nth SG na with
  | some s => (bif Nat.beq s.2.1 0 then ∃ F' : fx_F, C na as F (2, 0) F' ∧ Kt (2, 0) F' else ∃ (n : Nat) (F' : fx_F), C na as F (fx_tg4 s.2.1, n) F' ∧ Kt (fx_tg4 s.2.1, n) F')
  | none => True
noncomputable def fx_ci (HH : fx_HH) (NX : fx_N) (na rk pc : Nat) (lv : List fx_V) (F : fx_F) (q : Option (List fx_V × List fx_V)) : Prop := match q with
  | some (as, rest) => HH na as F (fun v F' => NX (Nat.add pc 3) lv (bif Nat.beq rk 0 then rest else v :: rest) F')
  | none => True
noncomputable def fx_gi2 (SG : List (Nat × Nat × Nat)) (HH : fx_HH) (NX : fx_N) (R : fx_V → fx_F → Prop) (x : ax_I) (pc : Nat) (lv st : List fx_V) (F : fx_F) : Prop :=
  bif Nat.ble x.2.1 29 then (match st with
    | [] => R (2, 0) F
    | v :: _ => R v F)
  else bif Nat.beq x.2.2.2.2.2.1 2 then (match st with
    | _ :: _ :: d :: _ :: q :: st' => NX (Nat.add pc 3) lv st' (fcp F q.2 d.2)
    | _ => True)
  else bif Nat.beq x.2.2.2.2.2.1 1 then True
  else bif Nat.beq (Nat.mod x.2.2.2.2.2.1 4) 1 then (bif Nat.beq x.2.1 31 then (match st with
    | y :: z :: st' => NX (Nat.add pc 3) lv ((0, bif Nat.beq x.2.2.2.2.2.1 5 then i_max z.2 y.2 else i_min z.2 y.2) :: st') F
    | _ => True) else fx_str NX x.2.2.2.2.2.1 pc lv st F)
  else (match rx_nth SG x.2.2.2.2.1 with
    | some s => fx_ci HH NX x.2.2.2.2.1 s.2.1 pc lv F (fx_spl (bif Nat.beq x.2.1 31 then s.1 else Nat.succ s.1) st [])
    | none => True)
noncomputable def fx_gi (w : ax_W) (FK : List (List Nat)) (FZ : List (List (Nat × Nat))) (SG : List (Nat × Nat × Nat)) (HH : fx_HH) (NX : fx_N) (R : fx_V → fx_F → Prop) (x : ax_I) (pc : Nat) (lv st : List fx_V) (F : fx_F) : Prop := bif Nat.ble x.2.1 25 then fx_go1 w FK FZ NX x pc lv st F else fx_gi2 SG HH NX R x pc lv st F
noncomputable def fx_Pk (w : ax_W) (FK : List (List Nat)) (FZ : List (List (Nat × Nat))) (SG : List (Nat × Nat × Nat)) (HH : fx_HH) (cd : List (List ax_I)) (hd : List (Nat × List Nat)) (G : fx_N) (R : fx_V → fx_F → Prop) (k : Nat) : fx_N := Nat.rec (motive := fun _ => fx_N) (fun _ _ _ _ => True) (fun _ ih pc lv st F => match ax_lookI cd pc with
  | some x => fx_gi w FK FZ SG HH (fx_nx hd G ih) R x x.1 lv st F
  | none => True) k
noncomputable def fx_Hd (w : ax_W) (FK : List (List Nat)) (FZ : List (List (Nat × Nat))) (SG : List (Nat × Nat × Nat)) (AP : List (List (List ax_I))) (IL : List Bool) (C : fx_C) (d : Nat) : fx_HH := Nat.rec (motive := fun _ => fx_HH) (fx_H0 SG C) (fun _ ih na as F Kt => match rx_nth IL na with
  | some true => (match rx_nth AP na with
    | some cd => (match rx_nth SG na with
      | some s => fx_Pk w FK FZ SG ih cd [] (fun _ _ _ _ => True) Kt 400 0 (fx_args as s.2.2) [] F
      | none => True)
    | none => True)
  | _ => fx_H0 SG C na as F Kt) d
section FXI
variable {w : ax_W} {FZ : List (List (Nat × Nat))} {P : List rx_M} {K : rx_K} {AP : List (List (List ax_I))} {SG : List (Nat × Nat × Nat)} {CV IL : List Bool}
/-- what calls are must follow from what they do -/
noncomputable def fx_Hok (w : ax_W) (FZ : List (List (Nat × Nat))) (P : List rx_M) (K : rx_K) (SG : List (Nat × Nat × Nat)) (CV : List Bool) (HH : fx_HH) : Prop := ∀ (na : Nat) (s : Nat × Nat × Nat) (as : List fx_V) (F F' : fx_F) (v : fx_V) (Kt : fx_V → fx_F → Prop), rx_nth SG na = some s → rx_nth CV na = some true → fx_E w FZ P K SG na as F v F' → (s.2.1 = 0 → v = (2, 0)) → (s.2.1 ≠ 0 → v.1 = fx_tg4 s.2.1) → Kt v F' → HH na as F Kt
theorem fx_H0_ok : fx_Hok w FZ P K SG CV (fx_H0 SG (fx_E w FZ P K SG)) := by
  intro na s as F F' v Kt hs _ hE h0 h1 hK
  unfold fx_H0
  rw [hs]
  dsimp only
  cases hb : Nat.beq s.2.1 0 with
  | true =>
    have := h0 (rx_beq.mp hb)
    subst this
    exact ⟨F', hE, hK⟩
  | false =>
    have hv := h1 (fun z => by rw [rx_beq.mpr z] at hb; cases hb)
    obtain ⟨t, n⟩ := v
    replace hv : t = fx_tg4 s.2.1 := hv
    subst hv
    exact ⟨n, F', hE, hK⟩
theorem fx_gi_ok {HH : fx_HH} (hHH : fx_Hok w FZ P K SG CV HH) {NX : fx_N} {R : fx_V → fx_F → Prop} {x : ax_I} {pc : Nat} {lv st : List fx_V} {F : fx_F} (hx : fx_okC CV x = true ∨ x.2.1 ≤ 29) (h : fx_go w K.2 FZ SG NX (fx_E w FZ P K SG) R x pc lv st F) : fx_gi w K.2 FZ SG HH NX R x pc lv st F := by
  unfold fx_go at h
  unfold fx_gi
  cases h25 : Nat.ble x.2.1 25 with
  | true => rw [h25] at h; exact h
  | false =>
    rw [h25, cond_false] at h
    rw [cond_false]
    unfold fx_go2 at h
    unfold fx_gi2
    cases h29 : Nat.ble x.2.1 29 with
    | true => rw [h29] at h; exact h
    | false =>
      rw [h29, cond_false] at h
      rw [cond_false]
      cases h2 : Nat.beq x.2.2.2.2.2.1 2 with
      | true => rw [h2] at h; exact h
      | false =>
        rw [h2, cond_false] at h
        rw [cond_false]
        cases h1 : Nat.beq x.2.2.2.2.2.1 1 with
        | true => trivial
        | false =>
          rw [h1, cond_false] at h
          rw [cond_false]
          cases h3 : Nat.beq (Nat.mod x.2.2.2.2.2.1 4) 1 with
          | true => rw [h3] at h; exact h
          | false =>
            rw [h3, cond_false] at h
            rw [cond_false]
            cases hs : rx_nth SG x.2.2.2.2.1 with
            | none => trivial
            | some s =>
              rw [hs] at h
              dsimp only at h ⊢
              have hcv : rx_nth CV x.2.2.2.2.1 = some true := by
                rcases hx with hx | hx
                · unfold fx_okC at hx
                  rw [h2, cond_false, h3, cond_false] at hx
                  cases hz : rx_nth CV x.2.2.2.2.1 with
                  | none => rw [hz] at hx; cases hx
                  | some b => rw [hz] at hx; rw [show b = true from hx]
                · rw [rx_ble.mpr hx] at h29; cases h29
              unfold fx_cl2 at h
              unfold fx_ci
              cases hq : fx_spl (bif Nat.beq x.2.1 31 then s.1 else Nat.succ s.1) st [] with
              | none => trivial
              | some q =>
                obtain ⟨as, rest⟩ := q
                rw [hq] at h
                dsimp only at h ⊢
                cases hb : Nat.beq s.2.1 0 with
                | true =>
                  rw [hb, cond_true] at h
                  obtain ⟨F', hE, hN⟩ := h
                  refine hHH _ s as F F' (2, 0) _ hs hcv hE (fun _ => rfl) (fun z => absurd (rx_beq.mp hb) z) ?_
                  exact hN
                | false =>
                  rw [hb, cond_false] at h
                  obtain ⟨n, F', hE, hN⟩ := h
                  refine hHH _ s as F F' (bif Nat.beq s.2.1 3 then 1 else bif Nat.beq s.2.1 4 then 2 else 0, n) _ hs hcv hE (fun z => by rw [rx_beq.mpr z] at hb; cases hb) (fun _ => rfl) ?_
                  exact hN
/-- instructions on, calls inline -/
theorem fx_Pk_ok (hA : fx_All w FZ P K AP SG CV) {HH : fx_HH} (hHH : fx_Hok w FZ P K SG CV HH) {i n : Nat} (hi : rx_nth CV i = some true) {cd : List (List ax_I)} (hcd : rx_nth AP i = some cd) {hd : List (Nat × List Nat)} {v : fx_V} {F' : fx_F} {G : fx_N} (hG : ∀ (m pc : Nat) (lv st : List fx_V) (F : fx_F), m < n → fx_R w FZ P K m i pc lv st F v F' → G pc lv st F) {R : fx_V → fx_F → Prop} (hR : R v F') : ∀ (k n' : Nat), n' ≤ n → ∀ (pc : Nat) (lv st : List fx_V) (F : fx_F), fx_R w FZ P K n' i pc lv st F v F' → fx_Pk w K.2 FZ SG HH cd hd G R k pc lv st F
  | 0, _, _, _, _, _, _, _ => trivial
  | k + 1, 0, _, pc, lv, st, F, h => by
    obtain ⟨q, lc, sc, hp, o, h1, h2, h3, h4, h5, h6, h7, h8, h9, h10⟩ := h
    cases h8
  | k + 1, n' + 1, hn, pc, lv, st, F, h => by
    obtain ⟨q, lc, sc, hp, o, h1, h2, h3, h4, h5, h6, h7, h8, h9, h10⟩ := h
    obtain ⟨x, hx, hS⟩ := fx_step hA (f := rx_run P K n') (fx_A hA n') hi h1 hcd h2 h3 h4 h8
    show (match ax_lookI cd pc with
      | some x => fx_gi w K.2 FZ SG HH (fx_nx hd G (fx_Pk w K.2 FZ SG HH cd hd G R k)) R x x.1 lv st F
      | none => True)
    rw [hx]
    dsimp only
    rw [(ax_lookI_ok hx).2]
    subst h6
    subst h7
    have hok : fx_okC CV x = true ∨ x.2.1 ≤ 29 := by
      obtain ⟨hFZ, hn2, hP, hall⟩ := hA
      obtain ⟨q', cd', s, e1, e2, e3, hcov⟩ := hall i hi
      rw [h1] at e1
      cases e1
      rw [hcd] at e2
      cases e2
      obtain ⟨v1, hcov⟩ := rx_and2.mp hcov
      obtain ⟨v2, hcov⟩ := rx_and2.mp hcov
      obtain ⟨v3, hcov⟩ := rx_and2.mp hcov
      obtain ⟨v4, hcov⟩ := rx_and2.mp hcov
      obtain ⟨v5, hcov⟩ := rx_and2.mp hcov
      replace h8 : rx_go P K (rx_run P K n') (rx_run P K n') (fun o => some [o]) q (pc, lc, sc, hp, [], 0, 0) = some [o] := h8
      unfold rx_go at h8
      dsimp only at h8
      cases hlk : rx_look (rx_cd q) pc with
      | none => rw [hlk] at h8; cases h8
      | some y =>
        obtain ⟨⟨ch, hc1, hc2⟩, hpc⟩ := rx_look_ok hlk
        have hy := List.all_eq_true.mp (List.all_eq_true.mp hcov ch hc1) y hc2
        unfold fx_cov1 at hy
        rw [hpc, hx] at hy
        obtain ⟨_, hy⟩ := rx_and2.mp hy
        obtain ⟨_, hy⟩ := rx_and2.mp hy
        obtain ⟨_, hy⟩ := rx_and2.mp hy
        rcases ax_condY hy with ⟨z, _⟩ | ⟨_, hy⟩
        · exact Or.inr (by have := rx_ble.mp z; omega)
        rcases ax_condY hy with ⟨z, _⟩ | ⟨_, hy⟩
        · exact Or.inr (rx_ble.mp z)
        · exact Or.inl hy
    refine fx_gi_ok hHH hok ?_
    rcases hS with ⟨σ, ⟨w1, w2, w3, w4⟩, hc, hf, hgo⟩ | ⟨v', hl, hv, hgo⟩
    · refine hgo _ _ _ lv ?_ h5 ?_
      · intro j q2 as hp2 o2 hj hq2 was hH2 hrun
        obtain ⟨q3, cd3, s3, e1, e2, e3, hcov⟩ := hA.2.2.2 j hj
        rw [hq2] at e1
        cases e1
        obtain ⟨_, hcov⟩ := rx_and2.mp hcov
        obtain ⟨_, hcov⟩ := rx_and2.mp hcov
        obtain ⟨_, hcov⟩ := rx_and2.mp hcov
        obtain ⟨_, hcov⟩ := rx_and2.mp hcov
        obtain ⟨v5, hcov⟩ := rx_and2.mp hcov
        have v5 : s3.2.2 = rx_mL (rx_n q2) := rx_beq.mp v5
        refine ⟨n', s3, e3, q2, _, [], hp2, o2, hq2, fx_args_ws was, fun x hx => (by cases hx), hH2, ?_, rfl, rfl, hrun, rfl, rfl⟩
        rw [v5]
        exact fx_args_L
      · intro lv' hL'
        obtain ⟨p, a, b, hp', rest⟩ := σ
        replace w4 : rest = ([], 0, 0) := w4
        subst w4
        have hR2 : ∀ lv2, fx_L lv2 a → fx_R w FZ P K n' i p lv2 (b.map fx_d) (fx_hp hp') v F' := fun lv2 hL2 => ⟨q, a, b, hp', o, h1, w1, w2, w3, hL2, rfl, rfl, hf, h9, h10⟩
        unfold fx_nx
        cases hh : fx_hd hd p with
        | none => exact fx_Pk_ok hA hHH hi hcd hG hR k n' (by omega) p lv' _ _ (hR2 lv' hL')
        | some m => exact hG n' _ _ _ _ (by omega) (hR2 _ (fx_mask_L hL'))
    · refine hgo _ _ _ lv ?_
      cases hl
      have e1 : fx_d v' = v := h9
      have e2 : fx_hp hp = F' := h10
      rw [e1, e2]
      exact hR
theorem fx_Hd_ok (hA : fx_All w FZ P K AP SG CV) : ∀ d, fx_Hok w FZ P K SG CV (fx_Hd w K.2 FZ SG AP IL (fx_E w FZ P K SG) d)
  | 0 => fx_H0_ok
  | d + 1 => by
    intro na s as F F' v Kt hs hcv hE h0 h1 hK
    show (match rx_nth IL na with
      | some true => (match rx_nth AP na with
        | some cd => (match rx_nth SG na with
          | some s => fx_Pk w K.2 FZ SG (fx_Hd w K.2 FZ SG AP IL (fx_E w FZ P K SG) d) cd [] (fun _ _ _ _ => True) Kt 400 0 (fx_args as s.2.2) [] F
          | none => True)
        | none => True)
      | _ => fx_H0 SG (fx_E w FZ P K SG) na as F Kt)
    have base := fx_H0_ok na s as F F' v Kt hs hcv hE h0 h1 hK
    cases hil : rx_nth IL na with
    | none => exact base
    | some b =>
      cases b with
      | false => exact base
      | true =>
        dsimp only
        cases hap : rx_nth AP na with
        | none => trivial
        | some cd =>
          dsimp only
          rw [hs]
          dsimp only
          obtain ⟨n, s2, e1, hR⟩ := hE
          rw [hs] at e1
          cases e1
          exact fx_Pk_ok hA (fx_Hd_ok hA d) hcv hap (n := n) (fun _ _ _ _ _ _ _ => trivial) hK 400 n (Nat.le_refl n) 0 _ [] F hR
end FXI
end
section
/-! fy: the same with constants that are known (tag 4): a branch on these goes one way -/
noncomputable def fy_u (u : fx_V) : fx_V := bif Nat.beq u.1 4 then (0, u.2) else u
noncomputable def fy_t (t : Nat) : Nat := bif Nat.beq t 4 then 0 else t
noncomputable def fy_dec (k x y : Nat) : Bool := bif Nat.beq k 0 then Nat.beq x y else bif Nat.beq k 1 then !(Nat.beq x y) else bif Nat.beq k 2 then Nat.blt (rx_bi x) (rx_bi y) else bif Nat.beq k 3 then !(Nat.blt (rx_bi x) (rx_bi y)) else bif Nat.beq k 4 then Nat.blt (rx_bi y) (rx_bi x) else !(Nat.blt (rx_bi y) (rx_bi x))
noncomputable def fy_s1 (NX : fx_N) (pc o i j na : Nat) (lv st : List fx_V) (F : fx_F) : Prop :=
  bif Nat.ble o 3 then (match rx_nth lv i with
    | some v => bif Nat.beq (fy_t v.1) (bif Nat.beq o 1 then 0 else bif Nat.beq o 2 then 2 else 1) then NX (Nat.add pc j) lv (v :: st) F else True
    | none => True)
  else bif Nat.ble o 5 then (match st with
    | v :: st' => NX (Nat.add pc j) (fx_put lv i v) st' F
    | [] => True)
  else bif Nat.beq o 6 then (match st with
    | v :: st' => NX (Nat.add pc j) (rx_upd (fx_put lv i v) (Nat.succ i) (3, 0)) st' F
    | [] => True)
  else bif Nat.beq o 7 then NX (Nat.add pc j) lv ((bif Nat.beq i 0 then (bif Nat.ble na 1 then 4 else 0, na) else (Nat.mod na 4, Nat.div na 4)) :: st) F
  else bif Nat.beq o 8 then NX (Nat.add pc j) lv ((1, na) :: st) F
  else bif Nat.beq o 9 then (match rx_nth lv i with
    | some v => bif Nat.beq (fy_t v.1) 0 then NX (Nat.add pc 3) (fx_put lv i (0, i_add v.2 na)) st F else True
    | none => True)
  else (match st with
    | y :: x :: st' => fx_bp i (fun z => NX (Nat.add pc 1) lv ((0, z) :: st') F) x.2 y.2
    | _ => True)
noncomputable def fy_br (NX : fx_N) (pc k na : Nat) (lv st : List fx_V) (F : fx_F) (c : Bool) (x y : Nat) : Prop := bif c then (bif fy_dec k x y then NX na lv st F else NX (Nat.add pc 3) lv st F) else (fx_c k x y → NX na lv st F) ∧ (fx_c (ax_not k) x y → NX (Nat.add pc 3) lv st F)
noncomputable def fy_s2 (NX : fx_N) (pc o i na : Nat) (tg : List Nat) (lv st : List fx_V) (F : fx_F) : Prop :=
  bif Nat.beq o 18 then NX na lv st F
  else (match st with
    | [] => True
    | x :: st1 =>
      bif Nat.beq o 11 then NX (Nat.add pc 1) lv ((0, bif Nat.beq i 0 then i_neg x.2 else i_2b x.2) :: st1) F
      else bif Nat.beq o 15 then NX (Nat.add pc 1) lv (x :: x :: st1) F
      else bif Nat.beq o 16 then NX (Nat.add pc 1) lv st1 F
      else bif Nat.beq o 19 then fy_br NX pc i na lv st1 F (Nat.blt i 6 && Nat.beq x.1 4) x.2 0
      else bif Nat.beq o 21 then ((x.2 < i ∨ Nat.add i (rx_len tg) ≤ x.2) → NX na lv st1 F) ∧ fx_sw (fun t => NX t lv st1 F) x.2 tg i
      else (match st1 with
        | [] => True
        | x2 :: st2 =>
          bif Nat.beq o 12 then NX (Nat.add pc 1) lv ((1, fx_j i x2.2 x.2) :: st2) F
          else bif Nat.beq o 13 then NX (Nat.add pc 1) lv ((1, bif Nat.beq i 0 then rx_j_shl x2.2 x.2 else rx_j_shr x2.2 x.2) :: st2) F
          else bif Nat.beq o 14 then NX (Nat.add pc 1) lv ((0, rx_f_lcmp x2.2 x.2) :: st2) F
          else bif Nat.beq o 17 then NX (Nat.add pc 1) lv (x :: x2 :: x :: x2 :: st2) F
          else fy_br NX pc i na lv st2 F (Nat.blt i 6 && (Nat.beq x.1 4 && Nat.beq x2.1 4)) x2.2 x.2))
noncomputable def fy_go1 (w : ax_W) (FK : List (List Nat)) (FZ : List (List (Nat × Nat))) (NX : fx_N) (x : ax_I) (pc : Nat) (lv st : List fx_V) (F : fx_F) : Prop :=
  bif Nat.ble x.2.1 10 then fy_s1 NX pc x.2.1 x.2.2.1 x.2.2.2.1 x.2.2.2.2.1 lv st F else bif Nat.ble x.2.1 21 then fy_s2 NX pc x.2.1 x.2.2.1 x.2.2.2.2.1 x.2.2.2.2.2.2 lv st F else fx_s3 w FK FZ NX pc x.2.1 x.2.2.1 x.2.2.2.2.1 x.2.2.2.2.2.1 lv st F
noncomputable def fy_gi (w : ax_W) (FK : List (List Nat)) (FZ : List (List (Nat × Nat))) (SG : List (Nat × Nat × Nat)) (HH : fx_HH) (NX : fx_N) (R : fx_V → fx_F → Prop) (x : ax_I) (pc : Nat) (lv st : List fx_V) (F : fx_F) : Prop := bif Nat.ble x.2.1 25 then fy_go1 w FK FZ NX x pc lv st F else fx_gi2 SG HH NX R x pc lv st F
noncomputable def fy_nx (hd : List (Nat × List Nat)) (G NX : fx_N) (pc : Nat) (lv st : List fx_V) (F : fx_F) : Prop := match fx_hd hd pc with
  | some m => G pc (fx_mask m (lv.map fy_u)) (st.map fy_u) F
  | none => NX pc lv st F
noncomputable def fy_Pk (w : ax_W) (FK : List (List Nat)) (FZ : List (List (Nat × Nat))) (SG : List (Nat × Nat × Nat)) (HH : fx_HH) (cd : List (List ax_I)) (hd : List (Nat × List Nat)) (G : fx_N) (R : fx_V → fx_F → Prop) (k : Nat) : fx_N := Nat.rec (motive := fun _ => fx_N) (fun _ _ _ _ => True) (fun _ ih pc lv st F => match ax_lookI cd pc with
  | some x => fy_gi w FK FZ SG HH (fy_nx hd G ih) R x x.1 lv st F
  | none => True) k
noncomputable def fy_Hd (w : ax_W) (FK : List (List Nat)) (FZ : List (List (Nat × Nat))) (SG : List (Nat × Nat × Nat)) (AP : List (List (List ax_I))) (IL : List Bool) (C : fx_C) (d : Nat) : fx_HH := Nat.rec (motive := fun _ => fx_HH) (fun na as F Kt => fx_H0 SG C na (as.map fy_u) F Kt) (fun _ ih na as F Kt => match rx_nth IL na with
  | some true => (match rx_nth AP na with
    | some cd => (match rx_nth SG na with
      | some s => fy_Pk w FK FZ SG ih cd [] (fun _ _ _ _ => True) Kt 400 0 (fx_args as s.2.2) [] F
      | none => True)
    | none => True)
  | _ => fx_H0 SG C na (as.map fy_u) F Kt) d
section FY
variable {w : ax_W} {FK : List (List Nat)} {FZ : List (List (Nat × Nat))} {SG : List (Nat × Nat × Nat)} {AP : List (List (List ax_I))} {IL : List Bool} {C : fx_C}
theorem fy_u2 (u : fx_V) : (fy_u u).2 = u.2 := by
  unfold fy_u
  cases Nat.beq u.1 4 <;> rfl
theorem fy_u1 (u : fx_V) : (fy_u u).1 = fy_t u.1 := by
  unfold fy_u fy_t
  cases h : Nat.beq u.1 4 with
  | true => rw [cond_true, cond_true]
  | false => rw [cond_false, cond_false]
theorem fy_tJ (u : fx_V) : Nat.beq (fy_u u).1 1 = Nat.beq u.1 1 := by
  rw [fy_u1]
  unfold fy_t
  cases h : Nat.beq u.1 4 with
  | true => rw [cond_true, rx_beq.mp h]; rfl
  | false => rw [cond_false]
theorem fy_low (lv : List fx_V) (i : Nat) : (fx_low lv i).map fy_u = fx_low (lv.map fy_u) i := by
  unfold fx_low
  cases i with
  | zero => rfl
  | succ j =>
    show List.map fy_u (match rx_nth lv j with | some v => bif Nat.beq v.1 1 then rx_upd lv j (3, 0) else lv | none => lv) = (match rx_nth (lv.map fy_u) j with | some v => bif Nat.beq v.1 1 then rx_upd (lv.map fy_u) j (3, 0) else lv.map fy_u | none => lv.map fy_u)
    rw [rx_nth_eq, rx_nth_eq, List.getElem?_map]
    cases lv[j]? with
    | none => rfl
    | some v =>
      show List.map fy_u (bif Nat.beq v.1 1 then rx_upd lv j (3, 0) else lv) = (bif Nat.beq (fy_u v).1 1 then rx_upd (lv.map fy_u) j (3, 0) else lv.map fy_u)
      rw [fy_tJ]
      cases Nat.beq v.1 1 with
      | false => rfl
      | true => rw [cond_true, cond_true, rx_upd_eq, rx_upd_eq, List.map_set]; rfl
theorem fy_put (lv : List fx_V) (i : Nat) (v : fx_V) : (fx_put lv i v).map fy_u = fx_put (lv.map fy_u) i (fy_u v) := by
  unfold fx_put
  rw [rx_upd_eq, rx_upd_eq, List.map_set, fy_low]
theorem fy_args : ∀ (as : List fx_V) (n : Nat), (fx_args as n).map fy_u = fx_args (as.map fy_u) n
  | [], n => by
    show List.map fy_u (List.replicate n (3, 0)) = List.replicate n (3, 0)
    rw [List.map_replicate]
    rfl
  | v :: as, n => by
    show List.map fy_u (bif Nat.beq v.1 1 then v :: (3, 0) :: fx_args as (n - 2) else v :: fx_args as (n - 1)) = (bif Nat.beq (fy_u v).1 1 then fy_u v :: (3, 0) :: fx_args (as.map fy_u) (n - 2) else fy_u v :: fx_args (as.map fy_u) (n - 1))
    rw [fy_tJ]
    cases Nat.beq v.1 1 with
    | true => rw [cond_true, cond_true, List.map_cons, List.map_cons, fy_args]; rfl
    | false => rw [cond_false, cond_false, List.map_cons, fy_args]
theorem fy_spl : ∀ (n : Nat) (st acc : List fx_V), fx_spl n (st.map fy_u) (acc.map fy_u) = (match fx_spl n st acc with
    | some q => some (q.1.map fy_u, q.2.map fy_u)
    | none => none)
  | 0, st, acc => rfl
  | n + 1, [], acc => rfl
  | n + 1, v :: st, acc => fy_spl n st (v :: acc)
theorem fy_bp {o x y : Nat} {k k' : Nat → Prop} (hk : ∀ z, k z → k' z) (h : fx_bp o k x y) : fx_bp o k' x y := by
  unfold fx_bp at h ⊢
  cases h0 : Nat.beq o 0 <;> rw [h0] at h <;> (try exact hk _ h)
  cases h1 : Nat.beq o 1 <;> rw [h1] at h <;> (try exact hk _ h)
  cases h2 : Nat.beq o 2 <;> rw [h2] at h <;> (try exact hk _ h)
  cases h3 : Nat.beq o 3 <;> rw [h3] at h <;> (try exact hk _ h)
  cases h4 : Nat.beq o 4 <;> rw [h4] at h <;> (try exact hk _ h)
  cases h5 : Nat.beq o 5 <;> rw [h5] at h <;> (try exact hk _ h)
  cases h6 : Nat.beq o 6 <;> rw [h6] at h <;> (try exact hk _ h)
  cases h7 : Nat.beq o 7 <;> rw [h7] at h <;> (try exact hk _ h)
  cases h8 : Nat.beq o 8 <;> rw [h8] at h <;> (try exact hk _ h)
  cases h9 : Nat.beq o 9 <;> rw [h9] at h <;> (try exact hk _ h)
/-- what is told of one tells of the other -/
noncomputable def fy_T (NX NY : fx_N) : Prop := ∀ pc lv st F, NX pc (lv.map fy_u) (st.map fy_u) F → NY pc lv st F
theorem fy_dec_ok {k x y : Nat} (hk : k < 6) : (fy_dec k x y = true → fx_c k x y) ∧ (fy_dec k x y = false → fx_c (ax_not k) x y) := by
  have nb : ∀ {a b : Nat}, (!(Nat.beq a b)) = true → a ≠ b := fun h z => by rw [z, Nat.beq_refl] at h; cases h
  have nb2 : ∀ {a b : Nat}, (!(Nat.beq a b)) = false → a = b := fun {a b} h => by
    cases hb : Nat.beq a b with
    | true => exact rx_beq.mp hb
    | false => rw [hb] at h; cases h
  have bf : ∀ {a b : Nat}, Nat.beq a b = false → a ≠ b := fun h z => by rw [z, Nat.beq_refl] at h; cases h
  have lf : ∀ {a b : Nat}, Nat.blt a b = false → b ≤ a := fun {a b} h => by
    rcases Nat.lt_or_ge a b with z | z
    · rw [rx_blt.mpr z] at h; cases h
    · exact z
  have nl : ∀ {a b : Nat}, (!(Nat.blt a b)) = true → b ≤ a := fun {a b} h => lf (by cases hb : Nat.blt a b with | true => rw [hb] at h; cases h | false => rfl)
  have nl2 : ∀ {a b : Nat}, (!(Nat.blt a b)) = false → a < b := fun {a b} h => rx_blt.mp (by cases hb : Nat.blt a b with | true => rfl | false => rw [hb] at h; cases h)
  match k, hk with
  | 0, _ => exact ⟨fun h => rx_beq.mp h, fun h => bf h⟩
  | 1, _ => exact ⟨fun h => nb h, fun h => nb2 h⟩
  | 2, _ =>
    have e : fy_dec 2 x y = Nat.blt (rx_bi x) (rx_bi y) := by unfold fy_dec; rw [show Nat.beq 2 0 = false from rfl, cond_false, show Nat.beq 2 1 = false from rfl, cond_false, show Nat.beq 2 2 = true from rfl, cond_true]
    rw [e]
    refine ⟨fun h => ?_, fun h => ?_⟩
    · show s_lt x y
      rw [s_lt_eq]
      exact rx_blt.mp h
    · show s_le y x
      rw [s_le_eq]
      exact lf h
  | 3, _ =>
    have e : fy_dec 3 x y = !(Nat.blt (rx_bi x) (rx_bi y)) := by unfold fy_dec; rw [show Nat.beq 3 0 = false from rfl, cond_false, show Nat.beq 3 1 = false from rfl, cond_false, show Nat.beq 3 2 = false from rfl, cond_false, show Nat.beq 3 3 = true from rfl, cond_true]
    rw [e]
    refine ⟨fun h => ?_, fun h => ?_⟩
    · show s_le y x
      rw [s_le_eq]
      exact nl h
    · show s_lt x y
      rw [s_lt_eq]
      exact nl2 h
  | 4, _ =>
    have e : fy_dec 4 x y = Nat.blt (rx_bi y) (rx_bi x) := by unfold fy_dec; rw [show Nat.beq 4 0 = false from rfl, cond_false, show Nat.beq 4 1 = false from rfl, cond_false, show Nat.beq 4 2 = false from rfl, cond_false, show Nat.beq 4 3 = false from rfl, cond_false, show Nat.beq 4 4 = true from rfl, cond_true]
    rw [e]
    refine ⟨fun h => ?_, fun h => ?_⟩
    · show s_lt y x
      rw [s_lt_eq]
      exact rx_blt.mp h
    · show s_le x y
      rw [s_le_eq]
      exact lf h
  | 5, _ =>
    have e : fy_dec 5 x y = !(Nat.blt (rx_bi y) (rx_bi x)) := by unfold fy_dec; rw [show Nat.beq 5 0 = false from rfl, cond_false, show Nat.beq 5 1 = false from rfl, cond_false, show Nat.beq 5 2 = false from rfl, cond_false, show Nat.beq 5 3 = false from rfl, cond_false, show Nat.beq 5 4 = false from rfl, cond_false]
    rw [e]
    refine ⟨fun h => ?_, fun h => ?_⟩
    · show s_le x y
      rw [s_le_eq]
      exact nl h
    · show s_lt y x
      rw [s_lt_eq]
      exact nl2 h
theorem fy_br_ok {NX NY : fx_N} (hN : fy_T NX NY) {pc k na : Nat} {lv st : List fx_V} {F : fx_F} {c : Bool} {x y : Nat} (hc : c = true → k < 6) (h : (fx_c k x y → NX na (lv.map fy_u) (st.map fy_u) F) ∧ (fx_c (ax_not k) x y → NX (Nat.add pc 3) (lv.map fy_u) (st.map fy_u) F)) : fy_br NY pc k na lv st F c x y := by
  unfold fy_br
  cases c with
  | false => exact ⟨fun z => hN _ _ _ _ (h.1 z), fun z => hN _ _ _ _ (h.2 z)⟩
  | true =>
    rw [cond_true]
    cases hd : fy_dec k x y with
    | true => exact hN _ _ _ _ (h.1 ((fy_dec_ok (hc rfl)).1 hd))
    | false => exact hN _ _ _ _ (h.2 ((fy_dec_ok (hc rfl)).2 hd))
theorem fy_sw {D D' : Nat → Prop} (hD : ∀ t, D t → D' t) {x : Nat} : ∀ {tg : List Nat} {j : Nat}, fx_sw D x tg j → fx_sw D' x tg j
  | [], _, _ => trivial
  | _ :: _, _, h => ⟨fun z => hD _ (h.1 z), fy_sw hD h.2⟩
theorem fy_go1_ok {NX NY : fx_N} (hN : fy_T NX NY) {x : ax_I} {pc : Nat} {lv st : List fx_V} {F : fx_F} (h : fx_go1 w FK FZ NX x pc (lv.map fy_u) (st.map fy_u) F) : fy_go1 w FK FZ NY x pc lv st F := by
  obtain ⟨xpc, o, i, j, na, nb, tg⟩ := x
  unfold fx_go1 at h
  unfold fy_go1
  dsimp only at h ⊢
  cases h10 : Nat.ble o 10 with
  | true =>
    rw [h10, cond_true] at h
    rw [cond_true]
    unfold fx_s1 at h
    unfold fy_s1
    cases h3 : Nat.ble o 3 with
    | true =>
      rw [h3, cond_true, rx_nth_eq, List.getElem?_map] at h
      rw [cond_true, rx_nth_eq]
      cases hv : lv[i]? with
      | none => trivial
      | some v =>
        rw [hv] at h
        replace h : (bif Nat.beq (fy_u v).1 (bif Nat.beq o 1 then 0 else bif Nat.beq o 2 then 2 else 1) then NX (Nat.add pc j) (lv.map fy_u) (fy_u v :: st.map fy_u) F else True) := h
        rw [fy_u1] at h
        show (bif Nat.beq (fy_t v.1) (bif Nat.beq o 1 then 0 else bif Nat.beq o 2 then 2 else 1) then NY (Nat.add pc j) lv (v :: st) F else True)
        cases hb : Nat.beq (fy_t v.1) (bif Nat.beq o 1 then 0 else bif Nat.beq o 2 then 2 else 1) with
        | false => trivial
        | true => rw [hb] at h; exact hN _ _ _ _ h
    | false =>
      rw [h3, cond_false] at h
      rw [cond_false]
      cases h5 : Nat.ble o 5 with
      | true =>
        rw [h5, cond_true] at h
        rw [cond_true]
        match st, h with
        | [], _ => trivial
        | v :: st', h => exact hN _ _ _ _ (by rw [fy_put]; exact h)
      | false =>
        rw [h5, cond_false] at h
        rw [cond_false]
        cases h6 : Nat.beq o 6 with
        | true =>
          rw [h6, cond_true] at h
          rw [cond_true]
          match st, h with
          | [], _ => trivial
          | v :: st', h =>
            refine hN _ _ _ _ ?_
            rw [rx_upd_eq, List.map_set, fy_put]
            replace h : NX (Nat.add pc j) (rx_upd (fx_put (lv.map fy_u) i (fy_u v)) (Nat.succ i) (3, 0)) (st'.map fy_u) F := h
            rw [rx_upd_eq] at h
            exact h
        | false =>
          rw [h6, cond_false] at h
          rw [cond_false]
          cases h7 : Nat.beq o 7 with
          | true =>
            rw [h7, cond_true] at h
            rw [cond_true]
            refine hN _ _ _ _ ?_
            rw [List.map_cons]
            have e : fy_u (bif Nat.beq i 0 then (bif Nat.ble na 1 then 4 else 0, na) else (Nat.mod na 4, Nat.div na 4)) = (bif Nat.beq i 0 then (0, na) else (Nat.mod na 4, Nat.div na 4)) := by
              cases Nat.beq i 0 with
              | true => cases Nat.ble na 1 <;> rfl
              | false =>
                rw [cond_false, cond_false]
                unfold fy_u
                rw [show Nat.beq (Nat.mod na 4) 4 = false from Bool.eq_false_iff.mpr (fun z => by
                  have z : na % 4 = 4 := rx_beq.mp z
                  omega)]
                rfl
            rw [e]
            exact h
          | false =>
            rw [h7, cond_false] at h
            rw [cond_false]
            cases h8 : Nat.beq o 8 with
            | true =>
              rw [h8, cond_true] at h
              rw [cond_true]
              exact hN _ _ _ _ h
            | false =>
              rw [h8, cond_false] at h
              rw [cond_false]
              cases h9 : Nat.beq o 9 with
              | true =>
                rw [h9, cond_true, rx_nth_eq, List.getElem?_map] at h
                rw [cond_true, rx_nth_eq]
                cases hv : lv[i]? with
                | none => trivial
                | some v =>
                  rw [hv] at h
                  replace h : (bif Nat.beq (fy_u v).1 0 then NX (Nat.add pc 3) (fx_put (lv.map fy_u) i (0, i_add (fy_u v).2 na)) (st.map fy_u) F else True) := h
                  rw [fy_u1, fy_u2] at h
                  show (bif Nat.beq (fy_t v.1) 0 then NY (Nat.add pc 3) (fx_put lv i (0, i_add v.2 na)) st F else True)
                  cases hb : Nat.beq (fy_t v.1) 0 with
                  | false => trivial
                  | true => rw [hb] at h; exact hN _ _ _ _ (by rw [fy_put]; exact h)
              | false =>
                rw [h9, cond_false] at h
                rw [cond_false]
                match st, h with
                | [], _ => trivial
                | [_], _ => trivial
                | y :: x :: st', h =>
                  replace h : fx_bp i (fun z => NX (Nat.add pc 1) (lv.map fy_u) ((0, z) :: st'.map fy_u) F) (fy_u x).2 (fy_u y).2 := h
                  rw [fy_u2, fy_u2] at h
                  exact fy_bp (fun z hz => hN _ _ _ _ hz) h
  | false =>
    rw [h10, cond_false] at h
    rw [cond_false]
    cases h21 : Nat.ble o 21 with
    | true =>
      rw [h21, cond_true] at h
      rw [cond_true]
      unfold fx_s2 at h
      unfold fy_s2
      cases h18 : Nat.beq o 18 with
      | true => rw [h18] at h; exact hN _ _ _ _ h
      | false =>
        rw [h18, cond_false] at h
        rw [cond_false]
        match st, h with
        | [], _ => trivial
        | x :: st1, h =>
          rw [List.map_cons] at h
          dsimp only at h ⊢
          rw [fy_u2] at h
          cases h11 : Nat.beq o 11 with
          | true => rw [h11] at h; exact hN _ _ _ _ h
          | false =>
            rw [h11, cond_false] at h
            rw [cond_false]
            cases h15 : Nat.beq o 15 with
            | true => rw [h15] at h; exact hN _ _ _ _ h
            | false =>
              rw [h15, cond_false] at h
              rw [cond_false]
              cases h16 : Nat.beq o 16 with
              | true => rw [h16] at h; exact hN _ _ _ _ h
              | false =>
                rw [h16, cond_false] at h
                rw [cond_false]
                cases h19 : Nat.beq o 19 with
                | true =>
                  rw [h19] at h
                  exact fy_br_ok hN (fun z => rx_blt.mp (rx_and2.mp z).1) h
                | false =>
                  rw [h19, cond_false] at h
                  rw [cond_false]
                  cases h21 : Nat.beq o 21 with
                  | true => rw [h21] at h; exact ⟨fun z => hN _ _ _ _ (h.1 z), fy_sw (fun t ht => hN _ _ _ _ ht) h.2⟩
                  | false =>
                    rw [h21, cond_false] at h
                    rw [cond_false]
                    match st1, h with
                    | [], _ => trivial
                    | x2 :: st2, h =>
                      rw [List.map_cons] at h
                      dsimp only at h ⊢
                      rw [fy_u2] at h
                      cases h12 : Nat.beq o 12 with
                      | true => rw [h12] at h; exact hN _ _ _ _ h
                      | false =>
                        rw [h12, cond_false] at h
                        rw [cond_false]
                        cases h13 : Nat.beq o 13 with
                        | true => rw [h13] at h; exact hN _ _ _ _ h
                        | false =>
                          rw [h13, cond_false] at h
                          rw [cond_false]
                          cases h14 : Nat.beq o 14 with
                          | true => rw [h14] at h; exact hN _ _ _ _ h
                          | false =>
                            rw [h14, cond_false] at h
                            rw [cond_false]
                            cases h17 : Nat.beq o 17 with
                            | true => rw [h17] at h; exact hN _ _ _ _ h
                            | false =>
                              rw [h17] at h
                              exact fy_br_ok hN (fun z => rx_blt.mp (rx_and2.mp z).1) h
    | false =>
      rw [h21, cond_false] at h
      rw [cond_false]
      unfold fx_s3 at h ⊢
      match st, h with
      | [], _ => trivial
      | x :: st1, h =>
        rw [List.map_cons] at h
        dsimp only at h ⊢
        rw [fy_u2] at h
        have ev : ∀ z, fy_u (fx_gv FK z na nb x.2 F) = fx_gv FK z na nb x.2 F := by
          intro z
          unfold fx_gv
          cases Nat.beq z.1 1 with
          | true => rfl
          | false =>
            cases Nat.beq z.1 2 with
            | true => rfl
            | false =>
              rw [cond_false, cond_false]
              unfold fy_u
              have : fx_tg FK na nb ≠ 4 := by
                unfold fx_tg
                intro z
                rcases ax_condY z with ⟨_, z⟩ | ⟨_, z⟩
                · split at z
                  · split at z
                    · rcases ax_condY z with ⟨_, z⟩ | ⟨_, z⟩ <;> cases z
                    · cases z
                  · cases z
                · rcases ax_condY z with ⟨_, z⟩ | ⟨_, z⟩
                  · cases z
                  · rcases ax_condY z with ⟨_, z⟩ | ⟨_, z⟩ <;> cases z
              rw [show Nat.beq (fx_tg FK na nb) 4 = false from Bool.eq_false_iff.mpr (fun z => this (rx_beq.mp z))]
              rfl
        cases h22 : Nat.beq o 22 with
        | true =>
          rw [h22, cond_true] at h
          rw [cond_true]
          refine hN _ _ _ _ ?_
          rw [List.map_cons, ev]
          exact h
        | false =>
          rw [h22, cond_false] at h
          rw [cond_false]
          cases h24 : Nat.beq o 24 && Nat.beq i 0 with
          | true => rw [h24] at h; exact hN _ _ _ _ h
          | false =>
            rw [h24, cond_false] at h
            rw [cond_false]
            match st1, h with
            | [], _ => trivial
            | x2 :: st2, h =>
              rw [List.map_cons] at h
              dsimp only at h ⊢
              rw [fy_u2] at h
              cases h23 : Nat.beq o 23 with
              | true => rw [h23] at h; exact hN _ _ _ _ h
              | false =>
                rw [h23, cond_false] at h
                rw [cond_false]
                cases h24 : Nat.beq o 24 with
                | true =>
                  rw [h24, cond_true] at h
                  rw [cond_true]
                  refine hN _ _ _ _ ?_
                  rw [List.map_cons]
                  have : fy_u (bif Nat.beq i 14 then 1 else bif Nat.beq i 16 then 2 else 0, F x2.2 x.2) = (bif Nat.beq i 14 then 1 else bif Nat.beq i 16 then 2 else 0, F x2.2 x.2) := by
                    cases Nat.beq i 14 with
                    | true => rfl
                    | false => cases Nat.beq i 16 <;> rfl
                  rw [this]
                  exact h
                | false =>
                  rw [h24, cond_false] at h
                  rw [cond_false]
                  match st2, h with
                  | [], _ => trivial
                  | x3 :: st3, h =>
                    rw [List.map_cons] at h
                    dsimp only at h ⊢
                    rw [fy_u2] at h
                    exact hN _ _ _ _ h
noncomputable def fy_HT (HH HY : fx_HH) : Prop := ∀ (na : Nat) (as : List fx_V) (F : fx_F) (Kt KY : fx_V → fx_F → Prop), (∀ v F', Kt (fy_u v) F' → KY v F') → HH na (as.map fy_u) F Kt → HY na as F KY
theorem fy_gi2_ok {HH HY : fx_HH} (hH : fy_HT HH HY) {NX NY : fx_N} (hN : fy_T NX NY) {R RY : fx_V → fx_F → Prop} (hR : ∀ v F', R (fy_u v) F' → RY v F') {x : ax_I} {pc : Nat} {lv st : List fx_V} {F : fx_F} (h : fx_gi2 SG HH NX R x pc (lv.map fy_u) (st.map fy_u) F) : fx_gi2 SG HY NY RY x pc lv st F := by
  unfold fx_gi2 at h ⊢
  cases h29 : Nat.ble x.2.1 29 with
  | true =>
    rw [h29, cond_true] at h
    rw [cond_true]
    match st, h with
    | [], h => exact hR (2, 0) F h
    | v :: _, h => exact hR v F h
  | false =>
    rw [h29, cond_false] at h
    rw [cond_false]
    cases h2 : Nat.beq x.2.2.2.2.2.1 2 with
    | true =>
      rw [h2, cond_true] at h
      rw [cond_true]
      match st, h with
      | [], _ => trivial
      | [_], _ => trivial
      | [_, _], _ => trivial
      | [_, _, _], _ => trivial
      | [_, _, _, _], _ => trivial
      | _ :: _ :: d :: _ :: q :: st', h =>
        replace h : NX (Nat.add pc 3) (lv.map fy_u) (st'.map fy_u) (fcp F (fy_u q).2 (fy_u d).2) := h
        rw [fy_u2, fy_u2] at h
        exact hN _ _ _ _ h
    | false =>
      rw [h2, cond_false] at h
      rw [cond_false]
      cases h1 : Nat.beq x.2.2.2.2.2.1 1 with
      | true => trivial
      | false =>
        rw [h1, cond_false] at h
        rw [cond_false]
        cases h3 : Nat.beq (Nat.mod x.2.2.2.2.2.1 4) 1 with
        | true =>
          rw [h3, cond_true] at h
          rw [cond_true]
          cases h31 : Nat.beq x.2.1 31 with
          | false =>
            rw [h31, cond_false] at h
            rw [cond_false]
            unfold fx_str at h ⊢
            match st, h with
            | [], _ => trivial
            | y :: st1, h =>
              rw [List.map_cons] at h
              dsimp only at h ⊢
              cases h13 : Nat.beq x.2.2.2.2.2.1 13 with
              | true =>
                rw [h13, cond_true] at h
                rw [cond_true]
                obtain ⟨n, h⟩ := h
                exact ⟨n, hN _ _ ((0, n) :: st1) _ h⟩
              | false =>
                rw [h13, cond_false] at h
                rw [cond_false]
                match st1, h with
                | [], _ => trivial
                | z :: st2, h =>
                  rw [List.map_cons] at h
                  dsimp only at h ⊢
                  obtain ⟨n, h⟩ := h
                  exact ⟨n, hN _ _ ((0, n) :: st2) _ h⟩
          | true =>
            rw [h31, cond_true] at h
            rw [cond_true]
            match st, h with
            | [], _ => trivial
            | [_], _ => trivial
            | y :: z :: st', h =>
              replace h : NX (Nat.add pc 3) (lv.map fy_u) ((0, bif Nat.beq x.2.2.2.2.2.1 5 then i_max (fy_u z).2 (fy_u y).2 else i_min (fy_u z).2 (fy_u y).2) :: st'.map fy_u) F := h
              rw [fy_u2, fy_u2] at h
              exact hN _ _ _ _ h
        | false =>
          rw [h3, cond_false] at h
          rw [cond_false]
          cases hs : rx_nth SG x.2.2.2.2.1 with
          | none => trivial
          | some s =>
            rw [hs] at h
            dsimp only at h ⊢
            unfold fx_ci at h ⊢
            have esp := fy_spl (bif Nat.beq x.2.1 31 then s.1 else Nat.succ s.1) st []
            rw [List.map_nil] at esp
            rw [esp] at h
            cases hq : fx_spl (bif Nat.beq x.2.1 31 then s.1 else Nat.succ s.1) st [] with
            | none => trivial
            | some q =>
              obtain ⟨as, rest⟩ := q
              rw [hq] at h
              refine hH _ as F _ _ (fun v F' hv => hN _ _ _ _ ?_) h
              cases hb : Nat.beq s.2.1 0 with
              | true => rw [hb] at hv; exact hv
              | false => rw [hb] at hv; exact hv
theorem fy_Pk_ok {HH HY : fx_HH} (hH : fy_HT HH HY) {cd : List (List ax_I)} {hd : List (Nat × List Nat)} {G : fx_N} {R RY : fx_V → fx_F → Prop} (hR : ∀ v F', R (fy_u v) F' → RY v F') : ∀ k : Nat, fy_T (fx_Pk w FK FZ SG HH cd hd G R k) (fy_Pk w FK FZ SG HY cd hd G RY k)
  | 0 => fun _ _ _ _ _ => trivial
  | k + 1 => fun pc lv st F h => by
    replace h : (match ax_lookI cd pc with
      | some x => fx_gi w FK FZ SG HH (fx_nx hd G (fx_Pk w FK FZ SG HH cd hd G R k)) R x x.1 (lv.map fy_u) (st.map fy_u) F
      | none => True) := h
    show (match ax_lookI cd pc with
      | some x => fy_gi w FK FZ SG HY (fy_nx hd G (fy_Pk w FK FZ SG HY cd hd G RY k)) RY x x.1 lv st F
      | none => True)
    have hN : fy_T (fx_nx hd G (fx_Pk w FK FZ SG HH cd hd G R k)) (fy_nx hd G (fy_Pk w FK FZ SG HY cd hd G RY k)) := by
      intro pc2 lv2 st2 F2 h2
      unfold fx_nx at h2
      unfold fy_nx
      cases hh : fx_hd hd pc2 with
      | none => rw [hh] at h2; exact fy_Pk_ok hH hR k _ _ _ _ h2
      | some m => rw [hh] at h2; exact h2
    cases hx : ax_lookI cd pc with
    | none => trivial
    | some x =>
      rw [hx] at h
      dsimp only at h ⊢
      unfold fx_gi at h
      unfold fy_gi
      cases h25 : Nat.ble x.2.1 25 with
      | true => rw [h25, cond_true] at h; rw [cond_true]; exact fy_go1_ok hN h
      | false => rw [h25, cond_false] at h; rw [cond_false]; exact fy_gi2_ok hH hN hR h
theorem fy_H0_ok : fy_HT (fx_H0 SG C) (fun na as F Kt => fx_H0 SG C na (as.map fy_u) F Kt) := by
  intro na as F Kt KY hK h
  unfold fx_H0 at h ⊢
  cases hs : rx_nth SG na with
  | none => trivial
  | some s =>
    rw [hs] at h
    dsimp only at h ⊢
    cases hb : Nat.beq s.2.1 0 with
    | true =>
      rw [hb, cond_true] at h
      rw [cond_true]
      obtain ⟨F', h1, h2⟩ := h
      exact ⟨F', h1, hK (2, 0) F' h2⟩
    | false =>
      rw [hb, cond_false] at h
      rw [cond_false]
      obtain ⟨n, F', h1, h2⟩ := h
      refine ⟨n, F', h1, hK _ F' ?_⟩
      have : fy_u (fx_tg4 s.2.1, n) = (fx_tg4 s.2.1, n) := by
        unfold fx_tg4
        cases Nat.beq s.2.1 3 with
        | true => rfl
        | false => cases Nat.beq s.2.1 4 <;> rfl
      rw [this]
      exact h2
theorem fy_Hd_ok : ∀ d, fy_HT (fx_Hd w FK FZ SG AP IL C d) (fy_Hd w FK FZ SG AP IL C d)
  | 0 => fy_H0_ok
  | d + 1 => by
    intro na as F Kt KY hK h
    replace h : (match rx_nth IL na with
      | some true => (match rx_nth AP na with
        | some cd => (match rx_nth SG na with
          | some s => fx_Pk w FK FZ SG (fx_Hd w FK FZ SG AP IL C d) cd [] (fun _ _ _ _ => True) Kt 400 0 (fx_args (as.map fy_u) s.2.2) [] F
          | none => True)
        | none => True)
      | _ => fx_H0 SG C na (as.map fy_u) F Kt) := h
    show (match rx_nth IL na with
      | some true => (match rx_nth AP na with
        | some cd => (match rx_nth SG na with
          | some s => fy_Pk w FK FZ SG (fy_Hd w FK FZ SG AP IL C d) cd [] (fun _ _ _ _ => True) KY 400 0 (fx_args as s.2.2) [] F
          | none => True)
        | none => True)
      | _ => fx_H0 SG C na (as.map fy_u) F KY)
    cases hil : rx_nth IL na with
    | none => rw [hil] at h; exact fy_H0_ok na as F Kt KY hK h
    | some b =>
      rw [hil] at h
      cases b with
      | false => exact fy_H0_ok na as F Kt KY hK h
      | true =>
        dsimp only at h ⊢
        cases hap : rx_nth AP na with
        | none => trivial
        | some cd =>
          rw [hap] at h
          dsimp only at h ⊢
          cases hs : rx_nth SG na with
          | none => trivial
          | some s =>
            rw [hs] at h
            dsimp only at h ⊢
            rw [← fy_args] at h
            exact fy_Pk_ok (fy_Hd_ok d) hK 400 0 _ [] F h
end FY
end
