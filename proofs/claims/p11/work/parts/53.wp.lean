/-- from a state of a method on: it ends, and so -/
noncomputable def ax_Wp (P : List rx_M) (K : rx_K) (r : rx_M) (σ : rx_S) (Po : rx_O → Prop) : Prop := ∃ o, (∃ n, rx_run P K n r σ = some [o]) ∧ Po o
section AXX
variable {P : List rx_M} {K : rx_K} {r : rx_M} {Po : rx_O → Prop}
theorem ax_run_up (hP : ∀ q ∈ P, rx_QW q ∧ rx_ST P K q) (hr : r ∈ P) {n m : Nat} (hnm : n ≤ m) {σ : rx_S} {l : List rx_O} (h : rx_run P K n r σ = some l) : rx_run P K m r σ = some l := by
  obtain ⟨p, a, rest⟩ := σ
  exact rm_run hP n m hnm r hr p a a rest l rm_le.rf h
theorem ax_go_x {f : rx_M → rx_S → Option (List rx_O)} {z : rx_O → Option (List rx_O)} {pc : Nat} {lv st : List Nat} {hp : rx_H} {x : rx_E} (hl : rx_look (rx_cd r) pc = some x) : rx_go P K f f z r (pc, lv, st, hp, [], 0, 0) = rx_do P K f f z r x.2.1 x.2.2.1 pc x.2.2.2.2.2.1 x.2.2.2.2.2.2.1 lv st hp [] 0 0 := by
  unfold rx_go
  dsimp only
  rw [hl]
theorem ax_wp_step (hP : ∀ q ∈ P, rx_QW q ∧ rx_ST P K q) (hr : r ∈ P) {pc : Nat} {lv st : List Nat} {hp : rx_H} {x : rx_E} {σ' : rx_S} (hl : rx_look (rx_cd r) pc = some x) (hk : rx_kd x.2.2.2.1 = 0) (hh : rx_sem x.2.2.2.1 K (rx_n r) pc x.2.2.2.2.2.1 x.2.2.2.2.2.2.1 lv st hp [] 0 0 = some [σ']) (hW : ax_Wp P K r σ' Po) : ax_Wp P K r (pc, lv, st, hp, [], 0, 0) Po := by
  obtain ⟨o, ⟨n, h1⟩, h2⟩ := hW
  refine ⟨o, ⟨n + 1, ?_⟩, h2⟩
  obtain ⟨⟨ch, hc1, hc2⟩, hpc⟩ := rx_look_ok hl
  obtain ⟨o1, o2, o3, o4, o5⟩ := (hP r hr).2 ch hc1 x hc2
  have k0 : x.2.1 = 0 := o2.trans hk
  show rx_go P K (rx_run P K n) (rx_run P K n) (fun o => some [o]) r (pc, lv, st, hp, [], 0, 0) = some [o]
  rw [ax_go_x hl]
  unfold rx_do
  rw [k0, o3 k0]
  show rx_nxt (rx_run P K n) r (rx_sem x.2.2.2.1 K (rx_n r) pc x.2.2.2.2.2.1 x.2.2.2.2.2.2.1 lv st hp [] 0 0) = some [o]
  rw [hh]
  exact h1
theorem ax_wp_ret (hP : ∀ q ∈ P, rx_QW q ∧ rx_ST P K q) (hr : r ∈ P) {pc : Nat} {lv st : List Nat} {hp : rx_H} {x : rx_E} {o : rx_O} (hl : rx_look (rx_cd r) pc = some x)
    (hh : (x.2.2.2.1 = .ireturn ∧ rx_iret (rx_n r) st hp [] 0 0 = some [o]) ∨ (x.2.2.2.1 = .lreturn ∧ rx_lret (rx_n r) st hp [] 0 0 = some [o]) ∨ (x.2.2.2.1 = .return_ ∧ rx_vret (rx_n r) st hp [] 0 0 = some [o]) ∨ (x.2.2.2.1 = .areturn ∧ rx_aret (rx_n r) st hp [] 0 0 = some [o])) (hPo : Po o) : ax_Wp P K r (pc, lv, st, hp, [], 0, 0) Po := by
  refine ⟨o, ⟨1, ?_⟩, hPo⟩
  obtain ⟨⟨ch, hc1, hc2⟩, hpc⟩ := rx_look_ok hl
  obtain ⟨o1, o2, o3, o4, o5⟩ := (hP r hr).2 ch hc1 x hc2
  show rx_go P K (rx_run P K 0) (rx_run P K 0) (fun o => some [o]) r (pc, lv, st, hp, [], 0, 0) = some [o]
  unfold rx_go
  dsimp only
  rw [hl]
  dsimp only
  unfold rx_do
  rcases hh with ⟨h1, h2⟩ | ⟨h1, h2⟩ | ⟨h1, h2⟩ | ⟨h1, h2⟩
  · rw [o2, h1]
    show rx_out (fun o => some [o]) (rx_iret (rx_n r) st hp [] 0 0) = some [o]
    rw [h2]; rfl
  · rw [o2, h1]
    show rx_out (fun o => some [o]) (rx_lret (rx_n r) st hp [] 0 0) = some [o]
    rw [h2]; rfl
  · rw [o2, h1]
    show rx_out (fun o => some [o]) (rx_vret (rx_n r) st hp [] 0 0) = some [o]
    rw [h2]; rfl
  · rw [o2, h1]
    show rx_out (fun o => some [o]) (rx_aret (rx_n r) st hp [] 0 0) = some [o]
    rw [h2]; rfl
theorem ax_wp_call (hP : ∀ q ∈ P, rx_QW q ∧ rx_ST P K q) (hr : r ∈ P) {q : rx_M} {i : Nat} {as rest : List Nat} {σ : rx_S} {Po1 : rx_O → Prop} (hq : rx_nth P i = some q) (hc : rx_cal P r i σ = some (as, rest)) (h1 : ax_Wp P K q (rx_ent q as σ) Po1) (h2 : ∀ o, Po1 o → ax_Wp P K r (rx_bh q rest σ o) Po) : ax_Wp P K r σ Po := by
  obtain ⟨o, ⟨n1, k1⟩, k2⟩ := h1
  obtain ⟨o2, ⟨n2, m1⟩, m2⟩ := h2 o k2
  have hqP : q ∈ P := by rw [rx_nth_eq] at hq; exact List.mem_of_getElem? hq
  have k1' := ax_run_up hP hqP (Nat.le_max_left n1 n2) k1
  have m1' := ax_run_up hP hr (Nat.le_max_right n1 n2) m1
  refine ⟨o2, ⟨max n1 n2 + 1, ?_⟩, m2⟩
  obtain ⟨N, hN⟩ : ∃ N, max n1 n2 = N := ⟨_, rfl⟩
  rw [hN] at k1' m1' ⊢
  obtain ⟨pc, lv, st, hp, iv, cn, sn⟩ := σ
  unfold rx_cal at hc
  dsimp only at hc
  show rx_go P K (rx_run P K N) (rx_run P K N) (fun o => some [o]) r (pc, lv, st, hp, iv, cn, sn) = some [o2]
  unfold rx_go
  dsimp only
  cases hl : rx_look (rx_cd r) pc with
  | none => rw [hl] at hc; cases hc
  | some x =>
    rw [hl, hq] at hc
    dsimp only at hc ⊢
    cases hs : rx_spl (bif Nat.beq x.2.1 5 then rx_np (rx_n q) else Nat.succ (rx_np (rx_n q))) st [] with
    | none => rw [hs] at hc; cases hc
    | some w =>
      obtain ⟨as', rest'⟩ := w
      rw [hs] at hc
      dsimp only at hc
      obtain ⟨hb0, he⟩ := rx_cond hc
      cases he
      obtain ⟨b1, hb1⟩ := rx_and2.mp hb0
      obtain ⟨b2, hb2⟩ := rx_and2.mp hb1
      obtain ⟨b3, hb3⟩ := rx_and2.mp hb2
      obtain ⟨b4, hb4⟩ := rx_and2.mp hb3
      obtain ⟨b5, hb5⟩ := rx_and2.mp hb4
      obtain ⟨b6, b7⟩ := rx_and2.mp hb5
      have e2 : x.2.2.2.2.2.1 = i := rx_beq.mp b2
      have e3 : Nat.beq x.2.2.2.2.2.2.1 1 = false := by cases hz : Nat.beq x.2.2.2.2.2.2.1 1 with | true => rw [hz] at b3; cases b3 | false => rfl
      have e4 : Nat.beq x.2.2.2.2.2.2.1 2 = false := by cases hz : Nat.beq x.2.2.2.2.2.2.1 2 with | true => rw [hz] at b4; cases b4 | false => rfl
      have e5 : Nat.beq (Nat.mod x.2.2.2.2.2.2.1 4) 1 = false := by cases hz : Nat.beq (Nat.mod x.2.2.2.2.2.2.1 4) 1 with | true => rw [hz] at b5; cases b5 | false => rfl
      have key : ∀ stat : Bool, (stat = true ↔ Nat.beq x.2.1 5 = true) → rx_call stat P (rx_run P K N) (rx_run P K N) r pc x.2.2.2.2.2.1 x.2.2.2.2.2.2.1 lv st hp iv cn sn = some [o2] := by
        intro stat hst
        have hst' : stat = Nat.beq x.2.1 5 := by
          cases stat with
          | true => exact (hst.mp rfl).symm
          | false => cases hz : Nat.beq x.2.1 5 with | true => exact hst.mpr hz | false => rfl
        unfold rx_call
        rw [e3, e4, e5]
        dsimp only [cond_false]
        unfold rx_inv
        rw [e2, hq]
        dsimp only
        rw [hst', hs]
        show (bif (Nat.beq x.2.1 5 || rx_rcv hp (Nat.div x.2.2.2.2.2.2.1 4) as) && rx_cok (rx_n r) (rx_n q) as rest cn sn then rx_inv3 (rx_run P K N) (rx_run P K N) r q pc lv hp iv cn sn as rest else none) = some [o2]
        rw [show (Nat.beq x.2.1 5 || rx_rcv hp (Nat.div x.2.2.2.2.2.2.1 4) as) = true from b6, show rx_cok (rx_n r) (rx_n q) as rest cn sn = true from b7]
        show rx_inv3 (rx_run P K N) (rx_run P K N) r q pc lv hp iv cn sn as rest = some [o2]
        unfold rx_inv3
        rw [show rx_run P K N q (0, rx_args as (rx_mL (rx_n q)), [], hp, iv, 0, 0) = some [o] from k1']
        exact m1'
      unfold rx_do
      rcases rx_or2.mp b1 with hk | hk
      · rw [rx_beq.mp hk] at key ⊢
        exact key false (by decide)
      · rw [rx_beq.mp hk] at key ⊢
        exact key true (by decide)
theorem ax_wp_cpy (hP : ∀ q ∈ P, rx_QW q ∧ rx_ST P K q) (hr : r ∈ P) {pc : Nat} {lv st : List Nat} {hp : rx_H} {x : rx_E} {σ' : rx_S} (hl : rx_look (rx_cd r) pc = some x) (hk : rx_kd x.2.2.2.1 = 5) (hb : x.2.2.2.2.2.2.1 = 2) (hh : rx_cpy pc lv st hp [] 0 0 = some σ') (h40 : (Nat.ble 1 (rx_rf (rx_n r)) && Nat.ble 40 (rx_rl (rx_n r))) = true) (hW : ax_Wp P K r σ' Po) : ax_Wp P K r (pc, lv, st, hp, [], 0, 0) Po := by
  obtain ⟨o, ⟨n, h1⟩, h2⟩ := hW
  refine ⟨o, ⟨n + 1, ?_⟩, h2⟩
  obtain ⟨⟨ch, hc1, hc2⟩, hpc⟩ := rx_look_ok hl
  obtain ⟨o1, o2, o3, o4, o5⟩ := (hP r hr).2 ch hc1 x hc2
  have k5 : x.2.1 = 5 := o2.trans hk
  show rx_go P K (rx_run P K n) (rx_run P K n) (fun o => some [o]) r (pc, lv, st, hp, [], 0, 0) = some [o]
  rw [ax_go_x hl]
  unfold rx_do
  rw [k5, hb]
  show rx_inv2 (rx_run P K n) r pc lv st hp [] 0 0 = some [o]
  unfold rx_inv2
  rw [hh]
  dsimp only
  rw [h40]
  exact h1
theorem ax_wp_prim (hP : ∀ q ∈ P, rx_QW q ∧ rx_ST P K q) (hr : r ∈ P) {pc nb : Nat} {lv st st2 : List Nat} {hp : rx_H} {x : rx_E} (hl : rx_look (rx_cd r) pc = some x) (hk : rx_kd x.2.2.2.1 = 5) (hb : x.2.2.2.2.2.2.1 = nb) (h1 : nb ≠ 1) (h2 : nb ≠ 2) (h3 : nb % 4 = 1) (hh : rx_prim (nb / 4) st = some st2) (h40 : (Nat.ble 1 (rx_rf (rx_n r)) && Nat.ble 40 (rx_rl (rx_n r))) = true) (h9 : rx_cat st2 ≤ 9) (hW : ax_Wp P K r (Nat.add pc 3, lv, st2, hp, [], 0, 0) Po) : ax_Wp P K r (pc, lv, st, hp, [], 0, 0) Po := by
  obtain ⟨o, ⟨n, k1⟩, k2⟩ := hW
  refine ⟨o, ⟨n + 1, ?_⟩, k2⟩
  obtain ⟨⟨ch, hc1, hc2⟩, hpc⟩ := rx_look_ok hl
  obtain ⟨o1, o2, o3, o4, o5⟩ := (hP r hr).2 ch hc1 x hc2
  have k5 : x.2.1 = 5 := o2.trans hk
  show rx_go P K (rx_run P K n) (rx_run P K n) (fun o => some [o]) r (pc, lv, st, hp, [], 0, 0) = some [o]
  rw [ax_go_x hl]
  unfold rx_do
  rw [k5, hb]
  show rx_call true P (rx_run P K n) (rx_run P K n) r pc x.2.2.2.2.2.1 nb lv st hp [] 0 0 = _
  unfold rx_call
  rw [show Nat.beq nb 1 = false from Bool.eq_false_iff.mpr (fun z => h1 (rx_beq.mp z)), show Nat.beq nb 2 = false from Bool.eq_false_iff.mpr (fun z => h2 (rx_beq.mp z)), rx_beq.mpr (show Nat.mod nb 4 = 1 from h3)]
  show rx_invP (rx_run P K n) r pc (Nat.div nb 4) lv st hp [] 0 0 = _
  unfold rx_invP
  rw [show rx_prim (Nat.div nb 4) st = some st2 from hh]
  dsimp only
  obtain ⟨q1, q2⟩ := rx_and2.mp h40
  rw [q1, q2, rx_ble.mpr h9]
  exact k1
theorem ax_wp_primS (hP : ∀ q ∈ P, rx_QW q ∧ rx_ST P K q) (hr : r ∈ P) {pc nb : Nat} {lv st st2 : List Nat} {hp : rx_H} {x : rx_E} (hl : rx_look (rx_cd r) pc = some x) (hk : rx_kd x.2.2.2.1 = 4) (hb : x.2.2.2.2.2.2.1 = nb) (h1 : nb ≠ 1) (h2 : nb ≠ 2) (h3 : nb % 4 = 1) (hh : rx_primS (nb / 4) st = some st2) (h40 : (Nat.ble 8 (rx_rf (rx_n r)) && Nat.ble 400 (rx_rl (rx_n r))) = true) (h9 : rx_cat st2 ≤ 9) (hW : ax_Wp P K r (Nat.add pc 3, lv, st2, hp, [], 0, 0) Po) : ax_Wp P K r (pc, lv, st, hp, [], 0, 0) Po := by
  obtain ⟨o, ⟨n, k1⟩, k2⟩ := hW
  refine ⟨o, ⟨n + 1, ?_⟩, k2⟩
  obtain ⟨⟨ch, hc1, hc2⟩, hpc⟩ := rx_look_ok hl
  obtain ⟨o1, o2, o3, o4, o5⟩ := (hP r hr).2 ch hc1 x hc2
  have k5 : x.2.1 = 4 := o2.trans hk
  show rx_go P K (rx_run P K n) (rx_run P K n) (fun o => some [o]) r (pc, lv, st, hp, [], 0, 0) = some [o]
  rw [ax_go_x hl]
  unfold rx_do
  rw [k5, hb]
  show rx_call false P (rx_run P K n) (rx_run P K n) r pc x.2.2.2.2.2.1 nb lv st hp [] 0 0 = _
  unfold rx_call
  rw [show Nat.beq nb 1 = false from Bool.eq_false_iff.mpr (fun z => h1 (rx_beq.mp z)), show Nat.beq nb 2 = false from Bool.eq_false_iff.mpr (fun z => h2 (rx_beq.mp z)), rx_beq.mpr (show Nat.mod nb 4 = 1 from h3)]
  show rx_invS (rx_run P K n) r pc (Nat.div nb 4) lv st hp [] 0 0 = _
  unfold rx_invS
  rw [show rx_primS (Nat.div nb 4) st = some st2 from hh]
  dsimp only
  obtain ⟨q1, q2⟩ := rx_and2.mp h40
  rw [q1, q2, rx_ble.mpr h9]
  exact k1
/-- locals that are forgotten -/
theorem ax_wp_forget (hP : ∀ q ∈ P, rx_QW q ∧ rx_ST P K q) (hr : r ∈ P) {pc c s : Nat} {lv lv' st : List Nat} {hp : rx_H} {iv : rx_I} (hl : lv'.length = lv.length) (h : ∀ i v : Nat, lv'[i]? = some v → v ≠ 2 → lv[i]? = some v) (hW : ax_Wp P K r (pc, lv', st, hp, iv, c, s) Po) : ax_Wp P K r (pc, lv, st, hp, iv, c, s) Po := by
  obtain ⟨o, ⟨n, h1⟩, h2⟩ := hW
  exact ⟨o, ⟨n, rm_run hP n n (Nat.le_refl _) r hr pc lv' lv (st, hp, iv, c, s) [o] ⟨hl, h⟩ h1⟩, h2⟩
theorem ax_wp_mono {σ : rx_S} {Po Po' : rx_O → Prop} (h : ax_Wp P K r σ Po) (hi : ∀ o, Po o → Po' o) : ax_Wp P K r σ Po' := by
  obtain ⟨o, ⟨n, h1⟩, h2⟩ := h
  exact ⟨o, ⟨n, h1⟩, hi o h2⟩
/-- what is run on the machine -/
theorem ax_wp_at (hP : ∀ q ∈ P, rx_QW q ∧ rx_ST P K q) (hr : r ∈ P) {l : Launch} {cy : Nat → ClassId} {D : va_G} {σ : rx_S} (h : ax_Wp P K r σ Po) : ∃ o, rx_At l cy D r σ [o] ∧ Po o := by
  obtain ⟨o, ⟨n, h1⟩, h2⟩ := h
  exact ⟨o, rx_at_run hP hr h1, h2⟩
end AXX
-- the abstract program: code by 16, contracts
abbrev ax_M : Type := List (List ax_I) × List ax_C
abbrev ax_O : Type := Nat × ax_E
noncomputable def ax_findI (pc : Nat) (l : List ax_I) : Option ax_I := List.rec (motive := fun _ => Option ax_I) none (fun x _ ih => bif Nat.beq x.1 pc then some x else ih) l
noncomputable def ax_lookI (cd : List (List ax_I)) (pc : Nat) : Option ax_I := match rx_nth cd (Nat.div pc 16) with
  | some l => ax_findI pc l
  | none => none
noncomputable def ax_ret (o rk : Nat) (st : List Nat) (E : ax_E) : Option ax_O := match st with
  | [] => bif Nat.beq o 28 && Nat.beq rk 0 then some (2, E) else none
  | [v] => bif Nat.beq o 26 then (match ax_iv E v with
      | some i => bif Nat.beq rk 1 || (Nat.beq rk 2 && (Nat.ble 2147483648 i.1 && Nat.ble i.2 2147483649)) then some (v, E) else none
      | none => none)
    else bif Nat.beq o 27 then (bif Nat.beq rk 3 && ax_isK E 1 v then some (v, E) else none)
    else bif Nat.beq o 29 && (Nat.beq rk 4 && ax_isR E v) then some (v, E) else none
  | _ => none
noncomputable def ax_posts (w : ax_W) (E : ax_E) (m : List (Nat × Nat)) (n0 : Nat) (md : List (Nat × Nat)) (ps : List ax_T) : Option (List ax_O) := List.rec (motive := fun _ => Option (List ax_O)) (some []) (fun po _ ih => match ax_post w E m n0 md po, ih with
  | some q, some r => some (q :: r)
  | _, _ => none) ps
noncomputable def ax_tr1 (w : ax_W) (E : ax_E) (md : List (Nat × Nat)) (as : List Nat) (C : ax_C) : Option (List ax_O) := match ax_match w E 0 C.1 as with
  | some m => bif C.2.1.all (fun x => ax_mem md x.1 x.2) then ax_posts w E m (ax_n C.1.2) C.2.1 C.2.2 else none
  | none => none
noncomputable def ax_try (w : ax_W) (E : ax_E) (md : List (Nat × Nat)) (as : List Nat) (cs : List ax_C) : Option (List ax_O) := List.rec (motive := fun _ => Option (List ax_O)) none (fun C _ ih => match ax_tr1 w E md as C with
  | some l => some l
  | none => ih) cs
/-- there is room for a call -/
noncomputable def ax_cok (E : ax_E) (r q : rx_N) (as rest : List Nat) : Bool := Nat.ble (ax_cat E rest) 8 && (Nat.ble (Nat.succ (rx_rf q)) (rx_rf r) && (Nat.ble (Nat.add (Nat.add 19 (rx_mL q)) (rx_rl q)) (rx_rl r) && (Nat.ble (rx_rc q) (rx_rc r) && (Nat.ble (rx_rs q) (rx_rs r) && (Nat.ble (ax_cat E as) (rx_mL q) && (Nat.beq (rx_rc q) 0 && Nat.beq (rx_rs q) 0))))))
noncomputable def ax_rcv (w : ax_W) (E : ax_E) (ci : Nat) (as : List Nat) : Bool := match as with
  | v :: _ => (match ax_rg w E v with
    | some g => (match rx_nth w.2.1 g with
      | some z => Nat.beq z.1 ci
      | none => false)
    | none => false)
  | [] => false
noncomputable def ax_aft {β : Type} (f : ax_A → Option (List β)) (rk pc : Nat) (lv rest : List Nat) (o : ax_O) : Option (List β) := f (Nat.add pc 3, lv, (bif Nat.beq rk 0 then rest else o.1 :: rest), o.2)
noncomputable def ax_outs {β : Type} (f : ax_A → Option (List β)) (rk pc : Nat) (lv rest : List Nat) (os : Option (List ax_O)) : Option (List β) := match os with
  | some l => rx_all (ax_aft f rk pc lv rest) l
  | none => none
noncomputable def ax_inv {β : Type} (w : ax_W) (AP : List ax_M) (md : List (Nat × Nat)) (g : rx_N → List (List ax_I) → ax_A → Option (List ax_O)) (f : ax_A → Option (List β)) (na : Nat) (q : rx_N) (pc : Nat) (lv : List Nat) (E : ax_E) (as rest : List Nat) : Option (List β) := match rx_nth AP na with
  | some (cd, cs) => ax_outs f (rx_rk q) pc lv rest (bif ax_nil cs then g q cd (0, ax_args E as (rx_mL q), [], E) else ax_try w E md as cs)
  | none => none
noncomputable def ax_cpy (w : ax_W) (md : List (Nat × Nat)) (pc : Nat) (lv st : List Nat) (E : ax_E) : Option ax_A := match st with
  | n :: dp :: d :: sp :: q :: st' => bif Nat.beq dp 0 && Nat.beq sp 0 then (match ax_rg w E d, ax_rg w E q with
    | some g, some h => (match rx_nth w.2.1 g with
      | some (k, len, _) => bif Nat.beq g h && (Nat.beq k 13 && (Nat.beq n (rx_int len) && (Nat.blt len 100000 && (Nat.ble (ax_cat E st') 8 && ax_mem md g 999)))) then some (Nat.add pc 3, lv, st', (E.1, E.2.1, ax_mkill w E [(g, 999)], ax_df E, ax_xkill w (ax_xf E) [(g, 999)])) else none
      | none => none)
    | _, _ => none) else none
  | _ => none
/-- Math.max, Math.min -/
noncomputable def ax_prim (k : Nat) (st : List Nat) (E : ax_E) : Option (List Nat × ax_E) := match st with
  | y :: x :: st' => (match ax_iv E x, ax_iv E y with
    | some ix, some iy => (match (bif Nat.beq k 1 then some (ax_val E (0, ax_max ix.1 iy.1, ax_max ix.2 iy.2)) else bif Nat.beq k 2 then some (ax_val E (0, ax_min ix.1 iy.1, ax_min ix.2 iy.2)) else none) with
      | some q => some (q.1 :: st', ax_addX q.2 (Nat.add 1039 k, [x, y, q.1, 0, 0]))
      | none => none)
    | _, _ => none)
  | _ => none
/-- of words -/
noncomputable def ax_primS (k : Nat) (st : List Nat) (E : ax_E) : Option (List Nat × ax_E) := match st with
  | v :: st' => bif Nat.beq k 3 then (match rx_wrd v with
      | some l => some (rx_int (rx_len l) :: st', E)
      | none => none)
    else bif Nat.beq k 4 then (match st' with
      | a :: st2 => (match rx_wrd a, ax_iv E v with
        | some l, some i => bif ax_inr i (rx_len l) && l.all (fun c => Nat.blt c 256) then some ((ax_val E (0, 2147483648, 2147483903)).1 :: st2, ax_addX (ax_val E (0, 2147483648, 2147483903)).2 (1042, [a, v, (ax_val E (0, 2147483648, 2147483903)).1, 0, 0])) else none
        | _, _ => none)
      | [] => none)
    else none
  | [] => none
noncomputable def ax_cl {β : Type} (w : ax_W) (P : List rx_M) (AP : List ax_M) (md : List (Nat × Nat)) (g : rx_N → List (List ax_I) → ax_A → Option (List ax_O)) (f : ax_A → Option (List β)) (rn : rx_N) (o na nb pc : Nat) (lv st : List Nat) (E : ax_E) : Option (List β) :=
  bif Nat.beq nb 1 then none
  else bif Nat.beq nb 2 then (bif Nat.beq o 31 && (Nat.ble 1 (rx_rf rn) && Nat.ble 40 (rx_rl rn)) then (match ax_cpy w md pc lv st E with
    | some a => f a
    | none => none) else none)
  else bif Nat.beq (Nat.mod nb 4) 1 then (bif Nat.beq o 31 && (Nat.ble 1 (rx_rf rn) && Nat.ble 40 (rx_rl rn)) then (match ax_prim (Nat.div nb 4) st E with
    | some (st2, E2) => bif Nat.ble (ax_cat E2 st2) 9 then f (Nat.add pc 3, lv, st2, E2) else none
    | none => none) else bif Nat.beq o 30 && (Nat.ble 8 (rx_rf rn) && Nat.ble 400 (rx_rl rn)) then (match ax_primS (Nat.div nb 4) st E with
    | some (st2, E2) => bif Nat.ble (ax_cat E2 st2) 9 then f (Nat.add pc 3, lv, st2, E2) else none
    | none => none) else none)
  else (match rx_nth P na with
    | some q => (match rx_spl (bif Nat.beq o 31 then rx_np (rx_n q) else Nat.succ (rx_np (rx_n q))) st [] with
      | some (as, rest) => bif (Nat.beq o 31 || ax_rcv w E (Nat.div nb 4) as) && ax_cok E rn (rx_n q) as rest then ax_inv w AP md g f na (rx_n q) pc lv E as rest else none
      | none => none)
    | none => none)
/-- one instruction -/
noncomputable def ax_go {β : Type} (w : ax_W) (P : List rx_M) (K : rx_K) (AP : List ax_M) (md : List (Nat × Nat)) (g : rx_N → List (List ax_I) → ax_A → Option (List ax_O)) (f : ax_A → Option (List β)) (z : ax_O → Option (List β)) (rn : rx_N) (cd : List (List ax_I)) (a : ax_A) : Option (List β) := match ax_lookI cd a.1 with
  | some x => bif Nat.ble x.2.1 25 then (match ax_step w K md (rx_mL rn) a.1 x.2.1 x.2.2.1 x.2.2.2.1 x.2.2.2.2.1 x.2.2.2.2.2.1 x.2.2.2.2.2.2 a.2.1 a.2.2.1 a.2.2.2 with
      | some l => rx_all f l
      | none => none)
    else bif Nat.ble x.2.1 29 then (match ax_ret x.2.1 (rx_rk rn) a.2.2.1 a.2.2.2 with
      | some o => z o
      | none => none)
    else ax_cl w P AP md g f rn x.2.1 x.2.2.2.2.1 x.2.2.2.2.2.1 a.1 a.2.1 a.2.2.1 a.2.2.2
  | none => none
/-- a method is run inline -/
noncomputable def ax_rn (w : ax_W) (P : List rx_M) (K : rx_K) (AP : List ax_M) (md : List (Nat × Nat)) (n : Nat) : rx_N → List (List ax_I) → ax_A → Option (List ax_O) := Nat.rec (fun _ _ _ => none) (fun _ ih rn cd a => ax_go w P K AP md ih (ih rn cd) (fun o => some [o]) rn cd a) n
noncomputable def ax_ctl (ins : Instr) : Option Nat := match ins with
  | .ireturn => some 26 | .lreturn => some 27 | .return_ => some 28 | .areturn => some 29 | .invokevirtual _ => some 30 | .invokespecial _ => some 30 | .invokestatic _ => some 31 | _ => none
/-- the abstract code is the method's -/
noncomputable def ax_tab (r : rx_M) (cd : List (List ax_I)) : Prop := ∀ ch ∈ cd, ∀ x ∈ ch, ∃ y, rx_look (rx_cd r) x.1 = some y ∧ y.2.2.2.2.2.1 = x.2.2.2.2.1 ∧ y.2.2.2.2.2.2.1 = x.2.2.2.2.2.1 ∧ ((x.2.1 ≤ 25 ∧ ax_num x.1 y.2.2.2.1 = some (x.2.1, x.2.2.1, x.2.2.2.1, x.2.2.2.2.2.2) ∧ (x.2.1 = 21 → x.2.2.2.2.2.2 ≠ [])) ∨ (25 < x.2.1 ∧ ax_ctl y.2.2.2.1 = some x.2.1))
