/-! Calls by contract; states that are alike -/
theorem rx_at_run {P : List rx_M} {K : rx_K} {l : Launch} {cy : Nat → ClassId} {D : va_G} (hP : ∀ q ∈ P, rx_QW q ∧ rx_ST P K q) {r : rx_M} (hr : r ∈ P) {n : Nat} {σ : rx_S} {outs : List rx_O} (h : rx_run P K n r σ = some outs) : rx_At l cy D r σ outs :=
  rx_sound hP n r (hP r hr).2 (hP r hr).1.2.2.2.2.2.2.2 σ outs h
theorem rx_at_adv {P : List rx_M} {K : rx_K} {l : Launch} {cy : Nat → ClassId} {D : va_G} (hP : ∀ q ∈ P, rx_QW q ∧ rx_ST P K q) {r : rx_M} (hr : r ∈ P) {n stop k : Nat} {σ : rx_S} {l' : List rx_S} {outs : List rx_O} (h : rx_adv P K n stop r k σ = some l') (hl : ∀ σ' ∈ l', rx_At l cy D r σ' outs) : rx_At l cy D r σ outs :=
  fun p e R s m args below meth c Q b A H0 ad0 en0 C hSc hA hret => rx_adv_ok hP (hP r hr).2 C hSc hA k σ l' h (fun σ' hσ => hl σ' hσ p e R s m args below meth c Q b A H0 ad0 en0 C hSc hA hret)
/-- a state ahead of a call of the i-th method: what it is called with, what stays on the stack -/
noncomputable def rx_cal (P : List rx_M) (r : rx_M) (i : Nat) (σ : rx_S) : Option (List Nat × List Nat) := match rx_look (rx_cd r) σ.1 with
  | some x => (match rx_nth P i with
    | some q => (match rx_spl (bif Nat.beq x.2.1 5 then rx_np (rx_n q) else Nat.succ (rx_np (rx_n q))) σ.2.2.1 [] with
      | some (as, rest) => bif (Nat.beq x.2.1 4 || Nat.beq x.2.1 5) && (Nat.beq x.2.2.2.2.2.1 i && (!(Nat.beq x.2.2.2.2.2.2.1 1) && (!(Nat.beq x.2.2.2.2.2.2.1 2) && (!(Nat.beq (Nat.mod x.2.2.2.2.2.2.1 4) 1) && ((Nat.beq x.2.1 5 || rx_rcv σ.2.2.2.1 (Nat.div x.2.2.2.2.2.2.1 4) as) && rx_cok (rx_n r) (rx_n q) as rest σ.2.2.2.2.2.1 σ.2.2.2.2.2.2))))) then some (as, rest) else none
      | none => none)
    | none => none)
  | none => none
/-- how the method called begins -/
noncomputable def rx_ent (q : rx_M) (as : List Nat) (σ : rx_S) : rx_S := (0, rx_args as (rx_mL (rx_n q)), [], σ.2.2.2.1, σ.2.2.2.2.1, 0, 0)
/-- behind the call -/
noncomputable def rx_bh (q : rx_M) (rest : List Nat) (σ : rx_S) (o : rx_O) : rx_S := (Nat.add σ.1 3, σ.2.1, (bif Nat.beq (rx_rk (rx_n q)) 0 then rest else o.1 :: rest), o.2.1, o.2.2, Nat.add σ.2.2.2.2.2.1 (rx_rc (rx_n q)), Nat.add σ.2.2.2.2.2.2 (rx_rs (rx_n q)))
theorem rx_all_map {α β : Type} (k : α → β) (l : List α) : rx_all (fun x => some [k x]) l = some (l.map k) := by
  have gen : ∀ l : List α, l.foldr (fun x acc => match (fun x => some [k x]) x with
    | some a => (match acc with
      | some b => some (a ++ b)
      | none => none)
    | none => none) (some []) = some (l.map k) := by
    intro l
    induction l with
    | nil => rfl
    | cons z l ih => rw [List.foldr_cons, ih]; rfl
  match l with
  | [] => rfl
  | [z] => rfl
  | z :: w :: l => exact gen (z :: w :: l)
section RXF
variable {p : Program} {l : Launch} {e : Env} {R : Room} {s : State} {m : MethodId} {args : Array Value} {below : List Frame} {meth : Method} {c : Code} {Q : State → Prop}
variable {cy : Nat → ClassId} {D : va_G} {b : Nat → Nat} {A : Nat → Prop} {H0 : Heap} {ad0 : List Nat} {en0 : List Int32} {nL : Nat}
theorem rx_G_call {P : List rx_M} {K : rx_K} (hP : ∀ q ∈ P, rx_QW q ∧ rx_ST P K q) {r q : rx_M} (hST : rx_ST P K r) (C : rx_Cx cy D r p R s m args meth c) (hH0 : H0 = s.heap) (hZt : rx_Zt b A s) (hA : ∀ z, H0.size ≤ z → A z) {i : Nat} {as rest : List Nat} {os : List rx_O} {σ : rx_S} (hN : nL = rx_mL (rx_n r))
    (hq : rx_nth P i = some q) (hc : rx_cal P r i σ = some (as, rest)) (hat : rx_At l cy D q (rx_ent q as σ) os) (hG : ∀ o ∈ os, rx_G p l e R s m args below meth c Q cy D b A H0 ad0 en0 nL (rx_bh q rest σ o)) : rx_G p l e R s m args below meth c Q cy D b A H0 ad0 en0 nL σ := by
  obtain ⟨pc, lv, st, hp, iv, cn, sn⟩ := σ
  unfold rx_cal at hc
  dsimp only at hc
  cases hl : rx_look (rx_cd r) pc with
  | none => rw [hl] at hc; cases hc
  | some x =>
    rw [hl, hq] at hc
    dsimp only at hc
    obtain ⟨⟨ch, hc1, hc2⟩, hpc⟩ := rx_look_ok hl
    have hOK := hST ch hc1 x hc2
    obtain ⟨xpc, kd, hh, ins, len, na, nb, w1, w2⟩ := x
    obtain ⟨o1, o2, o3, o4, o5⟩ := hOK
    dsimp only at hc o1 o2 o3 o4 o5 hpc
    subst hpc
    cases hs : rx_spl (bif Nat.beq kd 5 then rx_np (rx_n q) else Nat.succ (rx_np (rx_n q))) st [] with
    | none => rw [hs] at hc; cases hc
    | some w =>
      obtain ⟨as', rest'⟩ := w
      rw [hs] at hc
      dsimp only at hc
      obtain ⟨hb0, he⟩ := rx_cond hc
      cases he
      obtain ⟨b1, hb1⟩ := rx_and2.mp hb0
      obtain ⟨b2, hb2⟩ := rx_and2.mp hb1
      obtain ⟨b3, hb3⟩ := rx_and2.mp hb2
      obtain ⟨b4, hb5⟩ := rx_and2.mp hb3
      obtain ⟨b5, hb4⟩ := rx_and2.mp hb5
      have e2 : na = i := rx_beq.mp b2
      subst e2
      have hn1 : nb ≠ 1 := fun z => by rw [z] at b3; cases b3
      have hn2 : nb ≠ 2 := fun z => by rw [z] at b4; cases b4
      have hn3 : nb % 4 ≠ 1 := fun z => by
        rw [show Nat.mod nb 4 = 1 from z] at b5
        cases b5
      have hqP : q ∈ P := by rw [rx_nth_eq] at hq; exact List.mem_of_getElem? hq
      have sh : ∃ g : rx_M → rx_S → Option (List rx_O), g q (rx_ent q as (xpc, lv, st, hp, iv, cn, sn)) = some os ∧ rx_SndG P K l cy D g := by
        refine ⟨fun r' σ' => @ite _ (r' = q ∧ σ' = rx_ent q as (xpc, lv, st, hp, iv, cn, sn)) (Classical.propDecidable _) (some os) none, if_pos ⟨rfl, rfl⟩, ?_⟩
        intro r' _ _ σ' outs' h'
        by_cases hz : r' = q ∧ σ' = rx_ent q as (xpc, lv, st, hp, iv, cn, sn)
        · obtain ⟨rfl, rfl⟩ := hz
          have h2 := (@if_pos _ (Classical.propDecidable _) ⟨rfl, rfl⟩ _ (some os) none).symm.trans h'
          cases h2
          exact hat
        · have h2 := (@if_neg _ (Classical.propDecidable _) hz _ (some os) none).symm.trans h'
          cases h2
      obtain ⟨g, hg, hSnd⟩ := sh
      have hinv : ∀ stat : Bool, stat = Nat.beq kd 5 → rx_inv stat P g (fun _ σ' => some [σ']) r xpc na (Nat.div nb 4) lv st hp iv cn sn = some (os.map (rx_bh q rest (xpc, lv, st, hp, iv, cn, sn))) := by
        intro stat hst
        subst hst
        unfold rx_inv
        rw [hq]
        dsimp only
        rw [hs]
        dsimp only
        rw [hb4, cond_true]
        unfold rx_inv3
        have hg' : g q (0, rx_args as (rx_mL (rx_n q)), [], hp, iv, 0, 0) = some os := hg
        rw [hg']
        exact rx_all_map (rx_bh q rest (xpc, lv, st, hp, iv, cn, sn)) os
      have fin : ∀ (σ : rx_S) (o : List rx_S), (fun (_ : rx_M) (σ' : rx_S) => some [σ']) r σ = some o → (∀ y ∈ o, y ∈ os.map (rx_bh q rest (xpc, lv, st, hp, iv, cn, sn))) → rx_G p l e R s m args below meth c Q cy D b A H0 ad0 en0 nL σ := by
        intro σ o ho hsub
        cases ho
        obtain ⟨o', h1, h2⟩ := List.mem_map.mp (hsub σ List.mem_cons_self)
        rw [← h2]
        exact hG o' h1
      rcases rx_kd_or ins with hk | rfl | rfl | rfl | rfl | ⟨j, rfl⟩ | ⟨j, rfl⟩ | ⟨j, rfl⟩
      · rw [o2, hk] at b1; cases b1
      · rw [o2] at b1; cases b1
      · rw [o2] at b1; cases b1
      · rw [o2] at b1; cases b1
      · rw [o2] at b1; cases b1
      · exact rx_s_inv hP hSnd C hN hH0 hZt hA o1 o5 hn1 hn2 hn3 (Or.inl ⟨j, rfl, rfl⟩) (hinv false (by rw [o2]; rfl)) fin
      · exact rx_s_inv hP hSnd C hN hH0 hZt hA o1 o5 hn1 hn2 hn3 (Or.inr (Or.inl ⟨j, rfl, rfl⟩)) (hinv false (by rw [o2]; rfl)) fin
      · exact rx_s_inv hP hSnd C hN hH0 hZt hA o1 o5 hn1 hn2 hn3 (Or.inr (Or.inr ⟨j, rfl, rfl⟩)) (hinv true (by rw [o2]; rfl)) fin
end RXF
theorem rx_at_call {P : List rx_M} {K : rx_K} {l : Launch} {cy : Nat → ClassId} {D : va_G} (hP : ∀ q ∈ P, rx_QW q ∧ rx_ST P K q) {r q : rx_M} (hr : r ∈ P) {i : Nat} {as rest : List Nat} {os outs : List rx_O} {σ : rx_S}
    (hq : rx_nth P i = some q) (hc : rx_cal P r i σ = some (as, rest)) (hat : rx_At l cy D q (rx_ent q as σ) os) (hl : ∀ o ∈ os, rx_At l cy D r (rx_bh q rest σ o) outs) : rx_At l cy D r σ outs :=
  fun p e R s m args below meth c Q b A H0 ad0 en0 C hSc hA hret => rx_G_call hP (hP r hr).2 C hSc.2.1 hSc.2.2 hA rfl hq hc hat (fun o ho => hl o ho p e R s m args below meth c Q b A H0 ad0 en0 C hSc hA hret)
-- states that are alike
noncomputable def rx_eqL (a : List Nat) : List Nat → Bool := List.rec (motive := fun _ => List Nat → Bool) (fun b => match b with | [] => true | _ => false) (fun x _ ih b => match b with | y :: u => Nat.beq x y && ih u | [] => false) a
theorem rx_eqL_ok : ∀ {a b : List Nat}, rx_eqL a b = true → a = b
  | [], [], _ => rfl
  | [], _ :: _, h => by cases h
  | _ :: _, [], h => by cases h
  | x :: a, y :: b, h => by
    replace h : (Nat.beq x y && rx_eqL a b) = true := h
    obtain ⟨h1, h2⟩ := rx_and2.mp h
    rw [rx_beq.mp h1, rx_eqL_ok h2]
noncomputable def rx_eqI (a : rx_I) : rx_I → Bool := List.rec (motive := fun _ => rx_I → Bool) (fun b => match b with | [] => true | _ => false) (fun x _ ih b => match b with | y :: u => Nat.beq x.1 y.1 && (Nat.beq x.2 y.2 && ih u) | [] => false) a
theorem rx_eqI_ok : ∀ {a b : rx_I}, rx_eqI a b = true → a = b
  | [], [], _ => rfl
  | [], _ :: _, h => by cases h
  | _ :: _, [], h => by cases h
  | x :: a, y :: b, h => by
    replace h : (Nat.beq x.1 y.1 && (Nat.beq x.2 y.2 && rx_eqI a b)) = true := h
    obtain ⟨h1, h2⟩ := rx_and2.mp h
    obtain ⟨h2, h3⟩ := rx_and2.mp h2
    rw [rx_eqI_ok h3, Prod.ext (rx_beq.mp h1) (rx_beq.mp h2)]
noncomputable def rx_eqC (a b : Option rx_C) : Bool := match a, b with
  | none, none => true
  | some (t, n, l), some (u, k, f) => Nat.beq t u && (Nat.beq n k && rx_eqL l f)
  | _, _ => false
theorem rx_eqC_ok {a b : Option rx_C} (h : rx_eqC a b = true) : a = b := by
  match a, b, h with
  | none, none, _ => rfl
  | some (t, n, l), some (u, k, f), h =>
    replace h : (Nat.beq t u && (Nat.beq n k && rx_eqL l f)) = true := h
    obtain ⟨h1, h2⟩ := rx_and2.mp h
    obtain ⟨h2, h3⟩ := rx_and2.mp h2
    rw [rx_beq.mp h1, rx_beq.mp h2, rx_eqL_ok h3]
  | none, some _, h => cases h
  | some _, none, h => cases h
noncomputable def rx_eqT (n : Nat) : rx_T n → rx_T n → Bool := Nat.rec (motive := fun n => rx_T n → rx_T n → Bool) (fun a b => rx_eqC a b) (fun n ih (t u : rx_T n × rx_T n) => ih t.1 u.1 && ih t.2 u.2) n
theorem rx_eqT_ok : ∀ (n : Nat) (t u : rx_T n), rx_eqT n t u = true → t = u
  | 0, t, u, h => rx_eqC_ok (a := t) (b := u) h
  | n + 1, t, u, h => by
    have key : ∀ t u : rx_T n × rx_T n, (rx_eqT n t.1 u.1 && rx_eqT n t.2 u.2) = true → t = u := fun t u h => by
      obtain ⟨h1, h2⟩ := rx_and2.mp h
      exact Prod.ext (rx_eqT_ok n _ _ h1) (rx_eqT_ok n _ _ h2)
    exact key t u h
noncomputable def rx_eqS (a b : rx_S) : Bool := Nat.beq a.1 b.1 && (rx_eqL a.2.1 b.2.1 && (rx_eqL a.2.2.1 b.2.2.1 && (Nat.beq a.2.2.2.1.1 b.2.2.2.1.1 && (rx_eqT 8 a.2.2.2.1.2 b.2.2.2.1.2 && (rx_eqI a.2.2.2.2.1 b.2.2.2.2.1 && (Nat.beq a.2.2.2.2.2.1 b.2.2.2.2.2.1 && Nat.beq a.2.2.2.2.2.2 b.2.2.2.2.2.2))))))
theorem rx_eqS_ok {a b : rx_S} (h : rx_eqS a b = true) : a = b := by
  unfold rx_eqS at h
  obtain ⟨h1, h⟩ := rx_and2.mp h
  obtain ⟨h2, h⟩ := rx_and2.mp h
  obtain ⟨h3, h⟩ := rx_and2.mp h
  obtain ⟨h4, h⟩ := rx_and2.mp h
  obtain ⟨h5, h⟩ := rx_and2.mp h
  obtain ⟨h6, h⟩ := rx_and2.mp h
  obtain ⟨h7, h8⟩ := rx_and2.mp h
  exact Prod.ext (rx_beq.mp h1) (Prod.ext (rx_eqL_ok h2) (Prod.ext (rx_eqL_ok h3) (Prod.ext (Prod.ext (rx_beq.mp h4) (rx_eqT_ok 8 _ _ h5)) (Prod.ext (rx_eqI_ok h6) (Prod.ext (rx_beq.mp h7) (rx_beq.mp h8))))))
/-- one alone -/
noncomputable def rx_is1 {α : Type} (o : Option (List α)) : Bool := match o with
  | some [_] => true
  | _ => false
noncomputable def rx_get1 {α : Type} (d : α) (o : Option (List α)) : α := match o with
  | some [x] => x
  | _ => d
theorem rx_is1_ok {α : Type} {o : Option (List α)} (d : α) (h : rx_is1 o = true) : o = some [rx_get1 d o] := by
  match o, h with
  | none, h => cases h
  | some [], h => cases h
  | some [x], _ => rfl
  | some (_ :: _ :: _), h => cases h
noncomputable def rx_eq1 (o : Option (List rx_S)) (σ : rx_S) : Bool := match o with
  | some [τ] => rx_eqS τ σ
  | _ => false
theorem rx_eq1_ok {o : Option (List rx_S)} {σ : rx_S} (h : rx_eq1 o σ = true) : o = some [σ] := by
  match o, h with
  | none, h => cases h
  | some [], h => cases h
  | some [x], h => rw [rx_eqS_ok (a := x) (b := σ) h]
  | some (_ :: _ :: _), h => cases h
noncomputable def rx_isS {α : Type} (o : Option α) : Bool := match o with
  | some _ => true
  | none => false
noncomputable def rx_getS {α : Type} (d : α) (o : Option α) : α := match o with
  | some x => x
  | none => d
theorem rx_isS_ok {α : Type} {o : Option α} (d : α) (h : rx_isS o = true) : o = some (rx_getS d o) := by
  match o, h with
  | none, h => cases h
  | some x, _ => rfl
