section FXW
variable {w : ax_W} {FZ : List (List (Nat × Nat))} {P : List rx_M} {K : rx_K} {AP : List (List (List ax_I))} {SG : List (Nat × Nat × Nat)} {CV : List Bool}
/-- what is known of all methods that are told of -/
noncomputable def fx_All (w : ax_W) (FZ : List (List (Nat × Nat))) (P : List rx_M) (K : rx_K) (AP : List (List (List ax_I))) (SG : List (Nat × Nat × Nat)) (CV : List Bool) : Prop := FZ.length ≤ 12 ∧ (∀ p, fx_len w p < 4294967296) ∧ (∀ q ∈ P, rx_QW q ∧ rx_ST P K q) ∧ ∀ i, rx_nth CV i = some true → ∃ (q : rx_M) (cd : List (List ax_I)) (s : Nat × Nat × Nat), rx_nth P i = some q ∧ rx_nth AP i = some cd ∧ rx_nth SG i = some s ∧ fx_covB FZ CV q cd s = true
noncomputable def fx_wo (w : ax_W) (FK : List (List Nat)) (FZ : List (List (Nat × Nat))) (q : rx_M) (hp : rx_H) (o : rx_O) : Prop := fx_rt (rx_rk (rx_n q)) o.1 ∧ fx_H w FK FZ o.2.1 ∧ o.2.1.1 = hp.1 ∧ o.2.2 = []
/-- what holds of callees -/
noncomputable def fx_HG (w : ax_W) (FZ : List (List (Nat × Nat))) (P : List rx_M) (K : rx_K) (CV : List Bool) (g : rx_M → rx_S → Option (List rx_O)) : Prop := ∀ (j : Nat) (q : rx_M), rx_nth CV j = some true → rx_nth P j = some q → ∀ (pc : Nat) (lc sc : List Nat) (hp : rx_H) (l : List rx_O), fx_ws lc → fx_ws sc → fx_H w K.2 FZ hp → g q (pc, lc, sc, hp, [], 0, 0) = some l → ∃ o, l = [o] ∧ fx_wo w K.2 FZ q hp o
noncomputable def fx_HC (w : ax_W) (FZ : List (List (Nat × Nat))) (P : List rx_M) (K : rx_K) (CV : List Bool) (g : rx_M → rx_S → Option (List rx_O)) (C : fx_C) : Prop := ∀ (j : Nat) (q : rx_M) (as : List Nat) (hp : rx_H) (o : rx_O), rx_nth CV j = some true → rx_nth P j = some q → fx_ws as → fx_H w K.2 FZ hp → g q (0, rx_args as (rx_mL (rx_n q)), [], hp, [], 0, 0) = some [o] → C j (as.map fx_d) (fx_hp hp) (fx_d o.1) (fx_hp o.2.1)
theorem fx_all1 {α β : Type} {f : α → Option (List β)} {x : α} {b : List β} (h : rx_all f [x] = some b) : f x = some b := h
theorem fx_iret_ok {q : rx_M} {sc : List Nat} {hp : rx_H} {l : List rx_O} {kind : Nat} {pc : Nat} (hs : fx_ws sc) (hH : fx_H w K.2 FZ hp) (h : (kind = 1 ∧ rx_iret (rx_n q) sc hp [] 0 0 = some l) ∨ (kind = 3 ∧ rx_vret (rx_n q) sc hp [] 0 0 = some l) ∨ (kind = 2 ∧ rx_lret (rx_n q) sc hp [] 0 0 = some l) ∨ (kind = 6 ∧ rx_aret (rx_n q) sc hp [] 0 0 = some l)) : ∃ v, l = [(v, hp, [])] ∧ fx_rt (rx_rk (rx_n q)) v ∧ ∀ (R : fx_V → fx_F → Prop), R (fx_d v) (fx_hp hp) → (match sc.map fx_d with
    | [] => R (2, 0) (fx_hp hp)
    | v :: _ => R v (fx_hp hp)) := by
  rcases h with ⟨-, h⟩ | ⟨-, h⟩ | ⟨-, h⟩ | ⟨-, h⟩
  · unfold rx_iret at h
    match sc, hs, h with
    | [v], hs, h =>
      obtain ⟨hb, h⟩ := rx_cond h
      rw [ax_kn] at h hb
      cases h
      have wv := fx_ws_hd hs
      refine ⟨v, rfl, ⟨wv, fun z => ?_, fun _ => ?_⟩, fun R h => h⟩
      · obtain ⟨-, hb⟩ := rx_and2.mp hb
        rw [z] at hb
        cases hb
      · obtain ⟨-, hb⟩ := rx_and2.mp hb
        rcases rx_or2.mp hb with hb | hb
        · obtain ⟨a, b⟩ := rx_and2.mp hb
          rw [rx_beq.mp a]
          exact fx_isI wv b
        · obtain ⟨a, b⟩ := rx_and2.mp hb
          rw [rx_beq.mp a]
          rcases rx_or2.mp b with b | b <;> rw [rx_beq.mp b] <;> rfl
  · unfold rx_vret at h
    match sc, hs, h with
    | [], hs, h =>
      obtain ⟨hb, h⟩ := rx_cond h
      cases h
      obtain ⟨a, -⟩ := rx_and2.mp hb
      exact ⟨2, rfl, ⟨fx_wv_2, fun _ => rfl, fun z => absurd (rx_beq.mp a) z⟩, fun R h => h⟩
  · unfold rx_lret at h
    match sc, hs, h with
    | [v], hs, h =>
      obtain ⟨hb, h⟩ := rx_cond h
      cases h
      obtain ⟨-, hb⟩ := rx_and2.mp hb
      obtain ⟨a, b⟩ := rx_and2.mp hb
      have a := rx_beq.mp a
      exact ⟨v, rfl, ⟨fx_ws_hd hs, fun z => (by rw [a] at z; cases z), fun _ => (by rw [a]; exact rx_beq.mp b)⟩, fun R h => h⟩
  · unfold rx_aret at h
    match sc, hs, h with
    | [v], hs, h =>
      obtain ⟨hb, h⟩ := rx_cond h
      cases h
      obtain ⟨-, hb⟩ := rx_and2.mp hb
      obtain ⟨a, b⟩ := rx_and2.mp hb
      have a := rx_beq.mp a
      exact ⟨v, rfl, ⟨fx_ws_hd hs, fun z => (by rw [a] at z; cases z), fun _ => (by rw [a]; exact rx_beq.mp b)⟩, fun R h => h⟩
theorem fx_mx {u v : Nat} (b1 : v % 4 = 0) (b2 : u % 4 = 0) : fx_d (bif Nat.blt (rx_bi (v / 4)) (rx_bi (u / 4)) then u else v) = (0, i_max (v / 4) (u / 4)) := by
  rw [i_max_eq]
  cases Nat.blt (rx_bi (v / 4)) (rx_bi (u / 4)) with
  | true => exact fx_eint b2
  | false => exact fx_eint b1
theorem fx_mn {u v : Nat} (b1 : v % 4 = 0) (b2 : u % 4 = 0) : fx_d (bif Nat.blt (rx_bi (u / 4)) (rx_bi (v / 4)) then u else v) = (0, i_min (v / 4) (u / 4)) := by
  rw [i_min_eq]
  cases Nat.blt (rx_bi (u / 4)) (rx_bi (v / 4)) with
  | true => exact fx_eint b2
  | false => exact fx_eint b1
/-- how one instruction of a run goes: on to a state, or back -/
noncomputable def fx_S (w : ax_W) (FZ : List (List (Nat × Nat))) (P : List rx_M) (K : rx_K) (SG : List (Nat × Nat × Nat)) (CV : List Bool) (g f : rx_M → rx_S → Option (List rx_O)) (q : rx_M) (x : ax_I) (pc : Nat) (lc sc : List Nat) (hp : rx_H) (l : List rx_O) : Prop :=
  (∃ σ, fx_wf w K.2 FZ σ ∧ σ.2.2.2.1.1 = hp.1 ∧ f q σ = some l ∧ ∀ (NX : fx_N) (C : fx_C) (R : fx_V → fx_F → Prop) (lv : List fx_V), fx_HC w FZ P K CV g C → fx_L lv lc → fx_Nx σ NX → fx_go w K.2 FZ SG NX C R x pc lv (sc.map fx_d) (fx_hp hp)) ∨
  (∃ v, l = [(v, hp, [])] ∧ fx_rt (rx_rk (rx_n q)) v ∧ ∀ (NX : fx_N) (C : fx_C) (R : fx_V → fx_F → Prop) (lv : List fx_V), R (fx_d v) (fx_hp hp) → fx_go w K.2 FZ SG NX C R x pc lv (sc.map fx_d) (fx_hp hp))
theorem fx_step (hA : fx_All w FZ P K AP SG CV) {g f : rx_M → rx_S → Option (List rx_O)} (hg : fx_HG w FZ P K CV g) {i : Nat} (hi : rx_nth CV i = some true) {q : rx_M} (hq : rx_nth P i = some q) {cd : List (List ax_I)} (hcd : rx_nth AP i = some cd) {pc : Nat} {lc sc : List Nat} {hp : rx_H} {l : List rx_O} (hl : fx_ws lc) (hs : fx_ws sc) (hH : fx_H w K.2 FZ hp) (h : rx_go P K g f (fun o => some [o]) q (pc, lc, sc, hp, [], 0, 0) = some l) : ∃ x, ax_lookI cd pc = some x ∧ fx_S w FZ P K SG CV g f q x pc lc sc hp l := by
  obtain ⟨hFZ, hn, hP, hall⟩ := hA
  have hqP : q ∈ P := by rw [rx_nth_eq] at hq; exact List.mem_of_getElem? hq
  obtain ⟨q', cd', s, e1, e2, e3, hcov⟩ := hall i hi
  rw [hq] at e1
  cases e1
  rw [hcd] at e2
  cases e2
  obtain ⟨v1, hcov⟩ := rx_and2.mp hcov
  obtain ⟨v2, hcov⟩ := rx_and2.mp hcov
  obtain ⟨v3, hcov⟩ := rx_and2.mp hcov
  obtain ⟨v4, hcov⟩ := rx_and2.mp hcov
  obtain ⟨v5, hcov⟩ := rx_and2.mp hcov
  unfold rx_go at h
  dsimp only at h
  cases hlk : rx_look (rx_cd q) pc with
  | none => rw [hlk] at h; cases h
  | some y =>
    rw [hlk] at h
    dsimp only at h
    obtain ⟨⟨ch, hc1, hc2⟩, hpc⟩ := rx_look_ok hlk
    obtain ⟨o1, o2, o3, o4, o5⟩ := (hP q hqP).2 ch hc1 y hc2
    have hy := List.all_eq_true.mp (List.all_eq_true.mp hcov ch hc1) y hc2
    unfold fx_cov1 at hy
    rw [hpc] at hy
    cases hx : ax_lookI cd pc with
    | none => rw [hx] at hy; cases hy
    | some x =>
      rw [hx] at hy
      refine ⟨x, rfl, ?_⟩
      have hxpc := (ax_lookI_ok hx).2
      obtain ⟨n1, hy⟩ := rx_and2.mp hy
      obtain ⟨n2, hy⟩ := rx_and2.mp hy
      obtain ⟨n3, n4⟩ := rx_and2.mp hy
      have n1 : y.2.2.2.2.2.1 = x.2.2.2.2.1 := rx_beq.mp n1
      have n2 : y.2.2.2.2.2.2.1 = x.2.2.2.2.2.1 := rx_beq.mp n2
      rw [n1, n2] at h
      obtain ⟨xpc, o, ii, j, na, nb, tg⟩ := x
      replace hxpc : xpc = pc := hxpc
      subst hxpc
      dsimp only at h n4
      rcases ax_tabY_ok n3 with ⟨k25, knum, -⟩ | ⟨k25, kctl⟩
      · -- a step
        replace k25 : o ≤ 25 := k25
        replace knum : ax_num xpc y.2.2.2.1 = some (o, ii, j, tg) := knum
        rw [rx_ble.mpr k25, cond_true] at n4
        have hk0 : rx_kd y.2.2.2.1 = 0 := by
          cases hins : y.2.2.2.1 <;> rw [hins] at knum <;> first | rfl | cases knum
        have k0 : y.2.1 = 0 := o2.trans hk0
        unfold rx_do at h
        rw [k0, o3 k0] at h
        replace h : rx_nxt f q (rx_sem y.2.2.2.1 K (rx_n q) xpc na nb lc sc hp [] 0 0) = some l := h
        cases hsem : rx_sem y.2.2.2.1 K (rx_n q) xpc na nb lc sc hp [] 0 0 with
        | none => rw [hsem] at h; cases h
        | some l' =>
          rw [hsem] at h
          have hsl : rx_sl (rx_n q) = 0 := (hP q hqP).1.2.2.2.2.2.2.1
          obtain ⟨σ, rfl, h1, h2, h3⟩ := fx_step_ok hFZ hn hsl knum n4 hl hs hH hsem
          refine Or.inl ⟨σ, h1, h2, fx_all1 h, fun NX C R lv _ hL hN => ?_⟩
          unfold fx_go
          rw [rx_ble.mpr k25, cond_true]
          exact h3 NX lv hL hN
      · replace k25 : 25 < o := k25
        replace kctl : ax_ctl y.2.2.2.1 = some o := kctl
        have hn25 : Nat.ble o 25 = false := Bool.eq_false_iff.mpr (fun z => by have := rx_ble.mp z; omega)
        rw [hn25, cond_false] at n4
        by_cases h29 : o ≤ 29
        · -- back
          have main : ∀ kind, rx_kd y.2.2.2.1 = kind → ((kind = 1 ∧ rx_iret (rx_n q) sc hp [] 0 0 = some l) ∨ (kind = 3 ∧ rx_vret (rx_n q) sc hp [] 0 0 = some l) ∨ (kind = 2 ∧ rx_lret (rx_n q) sc hp [] 0 0 = some l) ∨ (kind = 6 ∧ rx_aret (rx_n q) sc hp [] 0 0 = some l)) → fx_S w FZ P K SG CV g f q (xpc, o, ii, j, na, nb, tg) xpc lc sc hp l := by
            intro kind _ hh
            obtain ⟨v, rfl, hv, hR⟩ := fx_iret_ok (w := w) (FZ := FZ) (K := K) (pc := xpc) hs hH hh
            refine Or.inr ⟨v, rfl, hv, fun NX C R lv hr => ?_⟩
            unfold fx_go
            rw [hn25, cond_false]
            unfold fx_go2
            rw [rx_ble.mpr h29, cond_true]
            exact hR R hr
          have out1 : ∀ (o : Option (List rx_O)), (∀ l0, o = some l0 → ∃ z, l0 = [z]) → rx_out (fun o => some [o]) o = some l → o = some l := by
            intro o ho h
            cases o with
            | none => cases h
            | some l0 =>
              obtain ⟨z, rfl⟩ := ho l0 rfl
              exact h
          have one : ∀ kind, ∀ l0, ((kind = 1 ∧ rx_iret (rx_n q) sc hp [] 0 0 = some l0) ∨ (kind = 3 ∧ rx_vret (rx_n q) sc hp [] 0 0 = some l0) ∨ (kind = 2 ∧ rx_lret (rx_n q) sc hp [] 0 0 = some l0) ∨ (kind = 6 ∧ rx_aret (rx_n q) sc hp [] 0 0 = some l0)) → ∃ z, l0 = [z] := by
            intro kind l0 hh
            obtain ⟨v, hv, -⟩ := fx_iret_ok (w := w) (FZ := FZ) (K := K) (pc := xpc) hs hH hh
            exact ⟨_, hv⟩
          unfold rx_do at h
          rw [o2] at h
          cases hins : y.2.2.2.1 <;> rw [hins] at kctl h main <;> first
            | (cases kctl; omega)
            | exact main 1 rfl (Or.inl ⟨rfl, out1 _ (fun l0 h0 => one 1 l0 (Or.inl ⟨rfl, h0⟩)) h⟩)
            | exact main 3 rfl (Or.inr (Or.inl ⟨rfl, out1 _ (fun l0 h0 => one 3 l0 (Or.inr (Or.inl ⟨rfl, h0⟩))) h⟩))
            | exact main 2 rfl (Or.inr (Or.inr (Or.inl ⟨rfl, out1 _ (fun l0 h0 => one 2 l0 (Or.inr (Or.inr (Or.inl ⟨rfl, h0⟩)))) h⟩)))
            | exact main 6 rfl (Or.inr (Or.inr (Or.inr ⟨rfl, out1 _ (fun l0 h0 => one 6 l0 (Or.inr (Or.inr (Or.inr ⟨rfl, h0⟩)))) h⟩)))
            | cases kctl
        · -- a call
          have hn29 : Nat.ble o 29 = false := Bool.eq_false_iff.mpr (fun z => h29 (rx_ble.mp z))
          rw [hn29, cond_false] at n4
          have hstat : ∃ stat : Bool, rx_call stat P g f q xpc na nb lc sc hp [] 0 0 = some l ∧ Nat.beq o 31 = stat ∧ (o = 30 ∨ o = 31) := by
            rcases ax_ctl_call kctl (by omega) with ⟨e, ek⟩ | ⟨e, ek⟩
            · refine ⟨false, ?_, by rw [e]; rfl, Or.inl e⟩
              unfold rx_do at h
              rw [o2, ek] at h
              exact h
            · refine ⟨true, ?_, by rw [e]; rfl, Or.inr e⟩
              unfold rx_do at h
              rw [o2, ek] at h
              exact h
          obtain ⟨stat, hcall, hst, ho⟩ := hstat
          have go2 : ∀ (NX : fx_N) (C : fx_C) (R : fx_V → fx_F → Prop) (lv : List fx_V), fx_go2 SG NX C R (xpc, o, ii, j, na, nb, tg) xpc lv (sc.map fx_d) (fx_hp hp) → fx_go w K.2 FZ SG NX C R (xpc, o, ii, j, na, nb, tg) xpc lv (sc.map fx_d) (fx_hp hp) := by
            intro NX C R lv hgo
            unfold fx_go
            rw [hn25, cond_false]
            exact hgo
          unfold fx_okC at n4
          dsimp only at n4
          unfold rx_call at hcall
          refine Or.inl ?_
          rcases ax_condY hcall with ⟨d, hcall⟩ | ⟨d1, hcall⟩
          · -- Object's constructor: not there
            rw [rx_beq.mp d] at n4
            rcases ax_condY n4 with ⟨z, -⟩ | ⟨-, n4⟩
            · cases z
            rcases ax_condY n4 with ⟨-, n4⟩ | ⟨z, -⟩
            · rcases ax_condY n4 with ⟨-, n4⟩ | ⟨-, n4⟩
              · cases n4
              · cases n4
            · cases z
          rcases ax_condY hcall with ⟨d, hcall⟩ | ⟨d2, hcall⟩
          · -- arraycopy
            unfold rx_inv2 at hcall
            cases hz : rx_cpy xpc lc sc hp [] 0 0 with
            | none => rw [hz] at hcall; cases hcall
            | some σ =>
              rw [hz] at hcall
              obtain ⟨-, hf⟩ := rx_cond hcall
              obtain ⟨g1, g2, g3⟩ := fx_cpy_ok hFZ hl hs hH hz
              refine ⟨σ, g1, g2, hf, fun NX C R lv _ hL hN => go2 NX C R lv ?_⟩
              unfold fx_go2
              rw [hn29, cond_false]
              dsimp only
              rw [d, cond_true]
              exact g3 NX lv hL hN
          rw [d2, cond_false] at n4
          rcases ax_condY hcall with ⟨d, hcall⟩ | ⟨d3, hcall⟩
          · rw [show Nat.beq (Nat.mod nb 4) 1 = true from d, cond_true] at n4
            cases stat with
            | true =>
              replace hcall : rx_invP f q xpc (Nat.div nb 4) lc sc hp [] 0 0 = some l := hcall
              rw [hst, cond_true] at n4
              unfold rx_invP at hcall
              cases hz : rx_prim (Nat.div nb 4) sc with
              | none => rw [hz] at hcall; cases hcall
              | some st' =>
                rw [hz] at hcall
                obtain ⟨-, hf⟩ := rx_cond hcall
                unfold rx_prim at hz
                match sc, hs, hz with
                | [], hs, hz => cases hz
                | [_], hs, hz => cases hz
                | u :: v :: s', hs, hz =>
                  obtain ⟨hb, hz⟩ := rx_cond hz
                  obtain ⟨b1, b2⟩ := rx_and2.mp hb
                  have b1 : v % 4 = 0 := rx_beq.mp b1
                  have b2 : u % 4 = 0 := rx_beq.mp b2
                  have key : ∃ r, st' = r :: s' ∧ fx_wv r ∧ fx_d r = (0, bif Nat.beq nb 5 then i_max (v / 4) (u / 4) else i_min (v / 4) (u / 4)) := by
                    rcases rx_or2.mp n4 with n4 | n4
                    · rw [rx_beq.mp n4] at hz ⊢
                      rw [show rx_pl v = v / 4 from rfl, show rx_pl u = u / 4 from rfl] at hz
                      replace hz : some ((bif Nat.blt (rx_bi (v / 4)) (rx_bi (u / 4)) then u else v) :: s') = some st' := hz
                      refine ⟨_, (Option.some.inj hz).symm, ?_, ?_⟩
                      · cases Nat.blt (rx_bi (v / 4)) (rx_bi (u / 4)) with
                        | true => exact fx_ws_hd hs
                        | false => exact fx_ws_hd (fx_ws_tl hs)
                      · rw [show Nat.beq 5 5 = true from rfl, cond_true]
                        exact fx_mx b1 b2
                    · rw [rx_beq.mp n4] at hz ⊢
                      rw [show rx_pl v = v / 4 from rfl, show rx_pl u = u / 4 from rfl] at hz
                      replace hz : some ((bif Nat.blt (rx_bi (u / 4)) (rx_bi (v / 4)) then u else v) :: s') = some st' := hz
                      refine ⟨_, (Option.some.inj hz).symm, ?_, ?_⟩
                      · cases Nat.blt (rx_bi (u / 4)) (rx_bi (v / 4)) with
                        | true => exact fx_ws_hd hs
                        | false => exact fx_ws_hd (fx_ws_tl hs)
                      · rw [show Nat.beq 9 5 = false from rfl, cond_false]
                        exact fx_mn b1 b2
                  obtain ⟨r, rfl, r1, r2⟩ := key
                  refine ⟨_, ⟨hl, fx_ws_cons r1 (fx_ws_tl (fx_ws_tl hs)), hH, rfl⟩, rfl, hf, fun NX C R lv _ hL hN => go2 NX C R lv ?_⟩
                  have hN := hN lv hL
                  unfold fx_go2
                  rw [hn29, cond_false]
                  dsimp only
                  rw [d2, cond_false, d1, cond_false, show Nat.beq (Nat.mod nb 4) 1 = true from d, cond_true, hst, cond_true]
                  rw [List.map_cons, r2] at hN
                  exact hN
            | false =>
              replace hcall : rx_invS f q xpc (Nat.div nb 4) lc sc hp [] 0 0 = some l := hcall
              unfold rx_invS at hcall
              cases hz : rx_primS (Nat.div nb 4) sc with
              | none => rw [hz] at hcall; cases hcall
              | some st' =>
                rw [hz] at hcall
                obtain ⟨-, hf⟩ := rx_cond hcall
                rw [hst, cond_false] at n4
                have hw : fx_ws st' ∧ ∀ (NX : fx_N) (lv : List fx_V), NX (Nat.add xpc 3) lv (st'.map fx_d) (fx_hp hp) → fx_str NX nb xpc lv (sc.map fx_d) (fx_hp hp) := by
                  rcases rx_or2.mp n4 with n4 | n4
                  · have e := rx_beq.mp n4
                    subst e
                    match sc, hs, hz with
                    | [], hs, hz => cases hz
                    | v :: s', hs, hz =>
                      replace hz : rx_primL v s' = some st' := hz
                      unfold rx_primL at hz
                      cases hw : rx_wrd v with
                      | none => rw [hw] at hz; cases hz
                      | some lw =>
                        rw [hw] at hz
                        cases hz
                        have := (fx_wrd_ok hw).1
                        refine ⟨fx_ws_cons (fx_wv_int (by omega)) (fx_ws_tl hs), fun NX lv h => ⟨rx_len lw, ?_⟩⟩
                        rw [List.map_cons, show fx_d (rx_int (rx_len lw)) = (0, rx_len lw) by unfold fx_d; rw [show rx_int (rx_len lw) % 4 = 0 by show 4 * rx_len lw % 4 = 0; omega, show rx_int (rx_len lw) / 4 = rx_len lw by show 4 * rx_len lw / 4 = _; omega]] at h
                        exact h
                  · have e := rx_beq.mp n4
                    subst e
                    match sc, hs, hz with
                    | [], hs, hz => cases hz
                    | v :: s', hs, hz =>
                      replace hz : rx_primC v s' = some st' := hz
                      unfold rx_primC at hz
                      match s', hs, hz with
                      | [], hs, hz => cases hz
                      | u :: s2, hs, hz =>
                        dsimp only at hz
                        cases hw : rx_wrd u with
                        | none => rw [hw] at hz; cases hz
                        | some lw =>
                          rw [hw] at hz
                          obtain ⟨-, hz⟩ := rx_cond hz
                          rw [rx_nth_eq] at hz
                          cases hc : lw[rx_pl v]? with
                          | none => rw [hc] at hz; cases hz
                          | some c =>
                            rw [hc] at hz
                            cases hz
                            have := (fx_wrd_ok hw).2 c (List.mem_of_getElem? hc)
                            refine ⟨fx_ws_cons (fx_wv_int (by omega)) (fx_ws_tl (fx_ws_tl hs)), fun NX lv h => ⟨c, ?_⟩⟩
                            rw [List.map_cons, show fx_d (rx_int c) = (0, c) by unfold fx_d; rw [show rx_int c % 4 = 0 by show 4 * c % 4 = 0; omega, show rx_int c / 4 = c by show 4 * c / 4 = _; omega]] at h
                            exact h
                refine ⟨_, ⟨hl, hw.1, hH, rfl⟩, rfl, hf, fun NX C R lv _ hL hN => go2 NX C R lv ?_⟩
                have hN := hN lv hL
                unfold fx_go2
                rw [hn29, cond_false]
                dsimp only
                rw [d2, cond_false, d1, cond_false, show Nat.beq (Nat.mod nb 4) 1 = true from d, cond_true, hst, cond_false]
                exact hw.2 NX lv hN
          · -- a method of the table
            rw [show Nat.beq (Nat.mod nb 4) 1 = false from d3, cond_false] at n4
            have hcv : rx_nth CV na = some true := by
              cases hz : rx_nth CV na with
              | none => rw [hz] at n4; cases n4
              | some b => rw [hz] at n4; rw [show b = true from n4]
            obtain ⟨q2, cd2, s2, m1, m2, m3, hcov2⟩ := hall na hcv
            obtain ⟨u1, hcov2⟩ := rx_and2.mp hcov2
            obtain ⟨u2, hcov2⟩ := rx_and2.mp hcov2
            obtain ⟨u3, hcov2⟩ := rx_and2.mp hcov2
            obtain ⟨u4, -⟩ := rx_and2.mp hcov2
            have u1 : rx_rc (rx_n q2) = 0 := rx_beq.mp u1
            have u2 : rx_rs (rx_n q2) = 0 := rx_beq.mp u2
            have u3 : s2.1 = rx_np (rx_n q2) := rx_beq.mp u3
            have u4 : s2.2.1 = rx_rk (rx_n q2) := rx_beq.mp u4
            unfold rx_inv at hcall
            rw [m1] at hcall
            dsimp only at hcall
            cases hsp : rx_spl (bif stat then rx_np (rx_n q2) else Nat.succ (rx_np (rx_n q2))) sc [] with
            | none => rw [hsp] at hcall; cases hcall
            | some wr =>
              obtain ⟨as, rest⟩ := wr
              rw [hsp] at hcall
              obtain ⟨-, hcall⟩ := rx_cond hcall
              obtain ⟨sp1, sp2⟩ := fx_spl_ok hsp
              obtain ⟨was, wrest⟩ := sp2 hs (fun x hx => by cases hx)
              unfold rx_inv3 at hcall
              cases hout : g q2 (0, rx_args as (rx_mL (rx_n q2)), [], hp, [], 0, 0) with
              | none => rw [hout] at hcall; cases hcall
              | some outs =>
                rw [hout] at hcall
                obtain ⟨oo, rfl, w1, w2, w3, w4⟩ := hg na q2 hcv m1 0 _ [] hp outs (fx_args_ws was) (fun x hx => by cases hx) hH hout
                replace hcall : rx_beh f q (rx_n q2) xpc lc rest 0 0 oo = some l := hcall
                unfold rx_beh at hcall
                rw [u1, u2, w4] at hcall
                have hrest : fx_ws (bif Nat.beq (rx_rk (rx_n q2)) 0 then rest else oo.1 :: rest) := by
                  cases Nat.beq (rx_rk (rx_n q2)) 0 with
                  | true => exact wrest
                  | false => exact fx_ws_cons w1.1 wrest
                refine ⟨_, ⟨hl, hrest, w2, rfl⟩, w3, hcall, fun NX C R lv hC hL hN => go2 NX C R lv ?_⟩
                have hN := hN lv hL
                have hc := hC na q2 as hp oo hcv m1 was hH hout
                unfold fx_go2
                rw [hn29, cond_false]
                dsimp only
                rw [d2, cond_false, d1, cond_false, show Nat.beq (Nat.mod nb 4) 1 = false from d3, cond_false, m3]
                dsimp only
                rw [hst, u3, show fx_spl (bif stat then rx_np (rx_n q2) else Nat.succ (rx_np (rx_n q2))) (sc.map fx_d) [] = some (as.map fx_d, rest.map fx_d) from sp1]
                unfold fx_cl2
                dsimp only
                rw [u4]
                cases hrk : Nat.beq (rx_rk (rx_n q2)) 0 with
                | true =>
                  rw [hrk] at hN
                  have := w1.2.1 (rx_beq.mp hrk)
                  rw [this] at hc
                  exact ⟨_, hc, hN⟩
                | false =>
                  rw [hrk] at hN
                  have := w1.2.2 (fun z => by rw [rx_beq.mpr z] at hrk; cases hrk)
                  have ed : fx_d oo.1 = (bif Nat.beq (rx_rk (rx_n q2)) 3 then 1 else bif Nat.beq (rx_rk (rx_n q2)) 4 then 2 else 0, oo.1 / 4) := by
                    rw [← this]
                    rfl
                  rw [ed] at hc
                  replace hN : NX (Nat.add xpc 3) lv (fx_d oo.1 :: rest.map fx_d) (fx_hp oo.2.1) := hN
                  rw [ed] at hN
                  exact ⟨_, _, hc, hN⟩
/-- a run has one outcome, and it is a good one -/
theorem fx_A (hA : fx_All w FZ P K AP SG CV) : ∀ n, fx_HG w FZ P K CV (rx_run P K n)
  | 0 => fun j q hj hq pc lc sc hp l _ _ _ h => by cases h
  | n + 1 => fun j q hj hq pc lc sc hp l hl hs hH h => by
    obtain ⟨q', cd, s, e1, e2, e3, -⟩ := hA.2.2.2 j hj
    have ih := fx_A hA n
    obtain ⟨x, hx, hS⟩ := fx_step hA (f := rx_run P K n) ih hj hq e2 hl hs hH h
    rcases hS with ⟨σ, ⟨w1, w2, w3, w4⟩, hc, hf, -⟩ | ⟨v, rfl, hv, -⟩
    · obtain ⟨p, a, b, hp', rest⟩ := σ
      replace w4 : rest = ([], 0, 0) := w4
      subst w4
      obtain ⟨o, rfl, z1, z2, z3, z4⟩ := ih j q hj hq p a b hp' l w1 w2 w3 hf
      exact ⟨o, rfl, z1, z2, z3.trans hc, z4⟩
    · exact ⟨_, rfl, hv, hH, rfl, rfl⟩
/-- a run of method i that ends so, within n instructions -/
noncomputable def fx_R (w : ax_W) (FZ : List (List (Nat × Nat))) (P : List rx_M) (K : rx_K) (n i pc : Nat) (lv st : List fx_V) (F : fx_F) (v : fx_V) (F' : fx_F) : Prop := ∃ (q : rx_M) (lc sc : List Nat) (hp : rx_H) (o : rx_O), rx_nth P i = some q ∧ fx_ws lc ∧ fx_ws sc ∧ fx_H w K.2 FZ hp ∧ fx_L lv lc ∧ sc.map fx_d = st ∧ fx_hp hp = F ∧ rx_run P K n q (pc, lc, sc, hp, [], 0, 0) = some [o] ∧ fx_d o.1 = v ∧ fx_hp o.2.1 = F'
/-- a call -/
noncomputable def fx_E (w : ax_W) (FZ : List (List (Nat × Nat))) (P : List rx_M) (K : rx_K) (SG : List (Nat × Nat × Nat)) : fx_C := fun i as F v F' => ∃ (n : Nat) (s : Nat × Nat × Nat), rx_nth SG i = some s ∧ fx_R w FZ P K n i 0 (fx_args as s.2.2) [] F v F'
theorem fx_mask_L : ∀ {m : List Nat} {lv : List fx_V} {lc : List Nat}, fx_L lv lc → fx_L (fx_mask m lv) lc
  | [], lv, lc, h => h
  | _ :: _, [], lc, h => h
  | b :: m, v :: lv, [], h => by cases h.1
  | b :: m, v :: lv, c :: lc, h => by
    have h0 := h.2 0 v c rfl rfl
    have ht : fx_L lv lc := ⟨Nat.succ.inj h.1, fun i u z hu hz => h.2 (i + 1) u z hu hz⟩
    show fx_L ((bif Nat.beq b 0 then (3, 0) else v) :: fx_mask m lv) (c :: lc)
    refine (fx_mask_L ht).cons ?_
    cases Nat.beq b 0 with
    | true => exact Or.inl rfl
    | false => exact h0
/-- instructions on -/
theorem fx_P_ok (hA : fx_All w FZ P K AP SG CV) {i n : Nat} (hi : rx_nth CV i = some true) {cd : List (List ax_I)} (hcd : rx_nth AP i = some cd) {hd : List (Nat × List Nat)} {v : fx_V} {F' : fx_F} : ∀ (k n' : Nat), n' ≤ n → ∀ (pc : Nat) (lv st : List fx_V) (F : fx_F), fx_R w FZ P K n' i pc lv st F v F' → fx_P w K.2 FZ SG cd hd (fx_E w FZ P K SG) (fun pc lv st F => ∃ m, m < n ∧ fx_R w FZ P K m i pc lv st F v F') (fun a b => v = a ∧ F' = b) k pc lv st F
  | 0, _, _, _, _, _, _, _ => trivial
  | k + 1, 0, _, pc, lv, st, F, h => by
    obtain ⟨q, lc, sc, hp, o, h1, h2, h3, h4, h5, h6, h7, h8, h9, h10⟩ := h
    cases h8
  | k + 1, n' + 1, hn, pc, lv, st, F, h => by
    obtain ⟨q, lc, sc, hp, o, h1, h2, h3, h4, h5, h6, h7, h8, h9, h10⟩ := h
    obtain ⟨x, hx, hS⟩ := fx_step hA (f := rx_run P K n') (fx_A hA n') hi h1 hcd h2 h3 h4 h8
    show (match ax_lookI cd pc with
      | some x => fx_go w K.2 FZ SG (fx_nx hd _ (fx_P w K.2 FZ SG cd hd _ _ _ k)) _ _ x x.1 lv st F
      | none => True)
    rw [hx]
    dsimp only
    rw [(ax_lookI_ok hx).2]
    subst h6
    subst h7
    rcases hS with ⟨σ, ⟨w1, w2, w3, w4⟩, hc, hf, hgo⟩ | ⟨v', hl, hv, hgo⟩
    · refine hgo _ _ _ lv ?_ h5 ?_
      · intro j q2 as hp2 o2 hj hq2 was hH2 hrun
        obtain ⟨q3, cd3, s3, e1, e2, e3, hcov⟩ := hA.2.2.2 j hj
        rw [hq2] at e1
        cases e1
        obtain ⟨_, hcov⟩ := rx_and2.mp hcov
        obtain ⟨_, hcov⟩ := rx_and2.mp hcov
        obtain ⟨_, hcov⟩ := rx_and2.mp hcov
        obtain ⟨_, hcov⟩ := rx_and2.mp hcov
        obtain ⟨v5, hcov⟩ := rx_and2.mp hcov
        have v5 : s3.2.2 = rx_mL (rx_n q2) := rx_beq.mp v5
        refine ⟨n', s3, e3, q2, _, [], hp2, o2, hq2, fx_args_ws was, fun x hx => (by cases hx), hH2, ?_, rfl, rfl, hrun, rfl, rfl⟩
        rw [v5]
        exact fx_args_L
      · intro lv' hL'
        obtain ⟨p, a, b, hp', rest⟩ := σ
        replace w4 : rest = ([], 0, 0) := w4
        subst w4
        have hR : ∀ lv2, fx_L lv2 a → fx_R w FZ P K n' i p lv2 (b.map fx_d) (fx_hp hp') v F' := fun lv2 hL2 => ⟨q, a, b, hp', o, h1, w1, w2, w3, hL2, rfl, rfl, hf, h9, h10⟩
        unfold fx_nx
        cases hh : fx_hd hd p with
        | none => exact fx_P_ok hA hi hcd k n' (by omega) p lv' _ _ (hR lv' hL')
        | some m => exact ⟨n', by omega, hR _ (fx_mask_L hL')⟩
    · refine hgo _ _ _ lv ⟨?_, ?_⟩
      · rw [← h9]
        cases hl
        rfl
      · rw [← h10]
        cases hl
        rfl
end FXW
