/-! fy: the same with constants that are known (tag 4): a branch on these goes one way -/
noncomputable def fy_u (u : fx_V) : fx_V := bif Nat.beq u.1 4 then (0, u.2) else u
noncomputable def fy_t (t : Nat) : Nat := bif Nat.beq t 4 then 0 else t
noncomputable def fy_dec (k x y : Nat) : Bool := bif Nat.beq k 0 then Nat.beq x y else bif Nat.beq k 1 then !(Nat.beq x y) else bif Nat.beq k 2 then Nat.blt (rx_bi x) (rx_bi y) else bif Nat.beq k 3 then !(Nat.blt (rx_bi x) (rx_bi y)) else bif Nat.beq k 4 then Nat.blt (rx_bi y) (rx_bi x) else !(Nat.blt (rx_bi y) (rx_bi x))
noncomputable def fy_s1 (NX : fx_N) (pc o i j na : Nat) (lv st : List fx_V) (F : fx_F) : Prop :=
  bif Nat.ble o 3 then (match rx_nth lv i with
    | some v => bif Nat.beq (fy_t v.1) (bif Nat.beq o 1 then 0 else bif Nat.beq o 2 then 2 else 1) then NX (Nat.add pc j) lv (v :: st) F else True
    | none => True)
  else bif Nat.ble o 5 then (match st with
    | v :: st' => NX (Nat.add pc j) (fx_put lv i v) st' F
    | [] => True)
  else bif Nat.beq o 6 then (match st with
    | v :: st' => NX (Nat.add pc j) (rx_upd (fx_put lv i v) (Nat.succ i) (3, 0)) st' F
    | [] => True)
  else bif Nat.beq o 7 then NX (Nat.add pc j) lv ((bif Nat.beq i 0 then (bif Nat.ble na 1 then 4 else 0, na) else (Nat.mod na 4, Nat.div na 4)) :: st) F
  else bif Nat.beq o 8 then NX (Nat.add pc j) lv ((1, na) :: st) F
  else bif Nat.beq o 9 then (match rx_nth lv i with
    | some v => bif Nat.beq (fy_t v.1) 0 then NX (Nat.add pc 3) (fx_put lv i (0, i_add v.2 na)) st F else True
    | none => True)
  else (match st with
    | y :: x :: st' => fx_bp i (fun z => NX (Nat.add pc 1) lv ((0, z) :: st') F) x.2 y.2
    | _ => True)
noncomputable def fy_br (NX : fx_N) (pc k na : Nat) (lv st : List fx_V) (F : fx_F) (c : Bool) (x y : Nat) : Prop := bif c then (bif fy_dec k x y then NX na lv st F else NX (Nat.add pc 3) lv st F) else (fx_c k x y → NX na lv st F) ∧ (fx_c (ax_not k) x y → NX (Nat.add pc 3) lv st F)
noncomputable def fy_s2 (NX : fx_N) (pc o i na : Nat) (tg : List Nat) (lv st : List fx_V) (F : fx_F) : Prop :=
  bif Nat.beq o 18 then NX na lv st F
  else (match st with
    | [] => True
    | x :: st1 =>
      bif Nat.beq o 11 then NX (Nat.add pc 1) lv ((0, bif Nat.beq i 0 then i_neg x.2 else i_2b x.2) :: st1) F
      else bif Nat.beq o 15 then NX (Nat.add pc 1) lv (x :: x :: st1) F
      else bif Nat.beq o 16 then NX (Nat.add pc 1) lv st1 F
      else bif Nat.beq o 19 then fy_br NX pc i na lv st1 F (Nat.blt i 6 && Nat.beq x.1 4) x.2 0
      else bif Nat.beq o 21 then ((x.2 < i ∨ Nat.add i (rx_len tg) ≤ x.2) → NX na lv st1 F) ∧ fx_sw (fun t => NX t lv st1 F) x.2 tg i
      else (match st1 with
        | [] => True
        | x2 :: st2 =>
          bif Nat.beq o 12 then NX (Nat.add pc 1) lv ((1, fx_j i x2.2 x.2) :: st2) F
          else bif Nat.beq o 13 then NX (Nat.add pc 1) lv ((1, bif Nat.beq i 0 then rx_j_shl x2.2 x.2 else rx_j_shr x2.2 x.2) :: st2) F
          else bif Nat.beq o 14 then NX (Nat.add pc 1) lv ((0, rx_f_lcmp x2.2 x.2) :: st2) F
          else bif Nat.beq o 17 then NX (Nat.add pc 1) lv (x :: x2 :: x :: x2 :: st2) F
          else fy_br NX pc i na lv st2 F (Nat.blt i 6 && (Nat.beq x.1 4 && Nat.beq x2.1 4)) x2.2 x.2))
noncomputable def fy_go1 (w : ax_W) (FK : List (List Nat)) (FZ : List (List (Nat × Nat))) (NX : fx_N) (x : ax_I) (pc : Nat) (lv st : List fx_V) (F : fx_F) : Prop :=
  bif Nat.ble x.2.1 10 then fy_s1 NX pc x.2.1 x.2.2.1 x.2.2.2.1 x.2.2.2.2.1 lv st F else bif Nat.ble x.2.1 21 then fy_s2 NX pc x.2.1 x.2.2.1 x.2.2.2.2.1 x.2.2.2.2.2.2 lv st F else fx_s3 w FK FZ NX pc x.2.1 x.2.2.1 x.2.2.2.2.1 x.2.2.2.2.2.1 lv st F
noncomputable def fy_gi (w : ax_W) (FK : List (List Nat)) (FZ : List (List (Nat × Nat))) (SG : List (Nat × Nat × Nat)) (HH : fx_HH) (NX : fx_N) (R : fx_V → fx_F → Prop) (x : ax_I) (pc : Nat) (lv st : List fx_V) (F : fx_F) : Prop := bif Nat.ble x.2.1 25 then fy_go1 w FK FZ NX x pc lv st F else fx_gi2 SG HH NX R x pc lv st F
noncomputable def fy_nx (hd : List (Nat × List Nat)) (G NX : fx_N) (pc : Nat) (lv st : List fx_V) (F : fx_F) : Prop := match fx_hd hd pc with
  | some m => G pc (fx_mask m (lv.map fy_u)) (st.map fy_u) F
  | none => NX pc lv st F
noncomputable def fy_Pk (w : ax_W) (FK : List (List Nat)) (FZ : List (List (Nat × Nat))) (SG : List (Nat × Nat × Nat)) (HH : fx_HH) (cd : List (List ax_I)) (hd : List (Nat × List Nat)) (G : fx_N) (R : fx_V → fx_F → Prop) (k : Nat) : fx_N := Nat.rec (motive := fun _ => fx_N) (fun _ _ _ _ => True) (fun _ ih pc lv st F => match ax_lookI cd pc with
  | some x => fy_gi w FK FZ SG HH (fy_nx hd G ih) R x x.1 lv st F
  | none => True) k
noncomputable def fy_Hd (w : ax_W) (FK : List (List Nat)) (FZ : List (List (Nat × Nat))) (SG : List (Nat × Nat × Nat)) (AP : List (List (List ax_I))) (IL : List Bool) (C : fx_C) (d : Nat) : fx_HH := Nat.rec (motive := fun _ => fx_HH) (fun na as F Kt => fx_H0 SG C na (as.map fy_u) F Kt) (fun _ ih na as F Kt => match rx_nth IL na with
  | some true => (match rx_nth AP na with
    | some cd => (match rx_nth SG na with
      | some s => fy_Pk w FK FZ SG ih cd [] (fun _ _ _ _ => True) Kt 400 0 (fx_args as s.2.2) [] F
      | none => True)
    | none => True)
  | _ => fx_H0 SG C na (as.map fy_u) F Kt) d
section FY
variable {w : ax_W} {FK : List (List Nat)} {FZ : List (List (Nat × Nat))} {SG : List (Nat × Nat × Nat)} {AP : List (List (List ax_I))} {IL : List Bool} {C : fx_C}
theorem fy_u2 (u : fx_V) : (fy_u u).2 = u.2 := by
  unfold fy_u
  cases Nat.beq u.1 4 <;> rfl
theorem fy_u1 (u : fx_V) : (fy_u u).1 = fy_t u.1 := by
  unfold fy_u fy_t
  cases h : Nat.beq u.1 4 with
  | true => rw [cond_true, cond_true]
  | false => rw [cond_false, cond_false]
theorem fy_tJ (u : fx_V) : Nat.beq (fy_u u).1 1 = Nat.beq u.1 1 := by
  rw [fy_u1]
  unfold fy_t
  cases h : Nat.beq u.1 4 with
  | true => rw [cond_true, rx_beq.mp h]; rfl
  | false => rw [cond_false]
theorem fy_low (lv : List fx_V) (i : Nat) : (fx_low lv i).map fy_u = fx_low (lv.map fy_u) i := by
  unfold fx_low
  cases i with
  | zero => rfl
  | succ j =>
    show List.map fy_u (match rx_nth lv j with | some v => bif Nat.beq v.1 1 then rx_upd lv j (3, 0) else lv | none => lv) = (match rx_nth (lv.map fy_u) j with | some v => bif Nat.beq v.1 1 then rx_upd (lv.map fy_u) j (3, 0) else lv.map fy_u | none => lv.map fy_u)
    rw [rx_nth_eq, rx_nth_eq, List.getElem?_map]
    cases lv[j]? with
    | none => rfl
    | some v =>
      show List.map fy_u (bif Nat.beq v.1 1 then rx_upd lv j (3, 0) else lv) = (bif Nat.beq (fy_u v).1 1 then rx_upd (lv.map fy_u) j (3, 0) else lv.map fy_u)
      rw [fy_tJ]
      cases Nat.beq v.1 1 with
      | false => rfl
      | true => rw [cond_true, cond_true, rx_upd_eq, rx_upd_eq, List.map_set]; rfl
theorem fy_put (lv : List fx_V) (i : Nat) (v : fx_V) : (fx_put lv i v).map fy_u = fx_put (lv.map fy_u) i (fy_u v) := by
  unfold fx_put
  rw [rx_upd_eq, rx_upd_eq, List.map_set, fy_low]
theorem fy_args : ∀ (as : List fx_V) (n : Nat), (fx_args as n).map fy_u = fx_args (as.map fy_u) n
  | [], n => by
    show List.map fy_u (List.replicate n (3, 0)) = List.replicate n (3, 0)
    rw [List.map_replicate]
    rfl
  | v :: as, n => by
    show List.map fy_u (bif Nat.beq v.1 1 then v :: (3, 0) :: fx_args as (n - 2) else v :: fx_args as (n - 1)) = (bif Nat.beq (fy_u v).1 1 then fy_u v :: (3, 0) :: fx_args (as.map fy_u) (n - 2) else fy_u v :: fx_args (as.map fy_u) (n - 1))
    rw [fy_tJ]
    cases Nat.beq v.1 1 with
    | true => rw [cond_true, cond_true, List.map_cons, List.map_cons, fy_args]; rfl
    | false => rw [cond_false, cond_false, List.map_cons, fy_args]
theorem fy_spl : ∀ (n : Nat) (st acc : List fx_V), fx_spl n (st.map fy_u) (acc.map fy_u) = (match fx_spl n st acc with
    | some q => some (q.1.map fy_u, q.2.map fy_u)
    | none => none)
  | 0, st, acc => rfl
  | n + 1, [], acc => rfl
  | n + 1, v :: st, acc => fy_spl n st (v :: acc)
theorem fy_bp {o x y : Nat} {k k' : Nat → Prop} (hk : ∀ z, k z → k' z) (h : fx_bp o k x y) : fx_bp o k' x y := by
  unfold fx_bp at h ⊢
  cases h0 : Nat.beq o 0 <;> rw [h0] at h <;> (try exact hk _ h)
  cases h1 : Nat.beq o 1 <;> rw [h1] at h <;> (try exact hk _ h)
  cases h2 : Nat.beq o 2 <;> rw [h2] at h <;> (try exact hk _ h)
  cases h3 : Nat.beq o 3 <;> rw [h3] at h <;> (try exact hk _ h)
  cases h4 : Nat.beq o 4 <;> rw [h4] at h <;> (try exact hk _ h)
  cases h5 : Nat.beq o 5 <;> rw [h5] at h <;> (try exact hk _ h)
  cases h6 : Nat.beq o 6 <;> rw [h6] at h <;> (try exact hk _ h)
  cases h7 : Nat.beq o 7 <;> rw [h7] at h <;> (try exact hk _ h)
  cases h8 : Nat.beq o 8 <;> rw [h8] at h <;> (try exact hk _ h)
  cases h9 : Nat.beq o 9 <;> rw [h9] at h <;> (try exact hk _ h)
/-- what is told of one tells of the other -/
noncomputable def fy_T (NX NY : fx_N) : Prop := ∀ pc lv st F, NX pc (lv.map fy_u) (st.map fy_u) F → NY pc lv st F
theorem fy_dec_ok {k x y : Nat} (hk : k < 6) : (fy_dec k x y = true → fx_c k x y) ∧ (fy_dec k x y = false → fx_c (ax_not k) x y) := by
  have nb : ∀ {a b : Nat}, (!(Nat.beq a b)) = true → a ≠ b := fun h z => by rw [z, Nat.beq_refl] at h; cases h
  have nb2 : ∀ {a b : Nat}, (!(Nat.beq a b)) = false → a = b := fun {a b} h => by
    cases hb : Nat.beq a b with
    | true => exact rx_beq.mp hb
    | false => rw [hb] at h; cases h
  have bf : ∀ {a b : Nat}, Nat.beq a b = false → a ≠ b := fun h z => by rw [z, Nat.beq_refl] at h; cases h
  have lf : ∀ {a b : Nat}, Nat.blt a b = false → b ≤ a := fun {a b} h => by
    rcases Nat.lt_or_ge a b with z | z
    · rw [rx_blt.mpr z] at h; cases h
    · exact z
  have nl : ∀ {a b : Nat}, (!(Nat.blt a b)) = true → b ≤ a := fun {a b} h => lf (by cases hb : Nat.blt a b with | true => rw [hb] at h; cases h | false => rfl)
  have nl2 : ∀ {a b : Nat}, (!(Nat.blt a b)) = false → a < b := fun {a b} h => rx_blt.mp (by cases hb : Nat.blt a b with | true => rfl | false => rw [hb] at h; cases h)
  match k, hk with
  | 0, _ => exact ⟨fun h => rx_beq.mp h, fun h => bf h⟩
  | 1, _ => exact ⟨fun h => nb h, fun h => nb2 h⟩
  | 2, _ =>
    have e : fy_dec 2 x y = Nat.blt (rx_bi x) (rx_bi y) := by unfold fy_dec; rw [show Nat.beq 2 0 = false from rfl, cond_false, show Nat.beq 2 1 = false from rfl, cond_false, show Nat.beq 2 2 = true from rfl, cond_true]
    rw [e]
    refine ⟨fun h => ?_, fun h => ?_⟩
    · show s_lt x y
      rw [s_lt_eq]
      exact rx_blt.mp h
    · show s_le y x
      rw [s_le_eq]
      exact lf h
  | 3, _ =>
    have e : fy_dec 3 x y = !(Nat.blt (rx_bi x) (rx_bi y)) := by unfold fy_dec; rw [show Nat.beq 3 0 = false from rfl, cond_false, show Nat.beq 3 1 = false from rfl, cond_false, show Nat.beq 3 2 = false from rfl, cond_false, show Nat.beq 3 3 = true from rfl, cond_true]
    rw [e]
    refine ⟨fun h => ?_, fun h => ?_⟩
    · show s_le y x
      rw [s_le_eq]
      exact nl h
    · show s_lt x y
      rw [s_lt_eq]
      exact nl2 h
  | 4, _ =>
    have e : fy_dec 4 x y = Nat.blt (rx_bi y) (rx_bi x) := by unfold fy_dec; rw [show Nat.beq 4 0 = false from rfl, cond_false, show Nat.beq 4 1 = false from rfl, cond_false, show Nat.beq 4 2 = false from rfl, cond_false, show Nat.beq 4 3 = false from rfl, cond_false, show Nat.beq 4 4 = true from rfl, cond_true]
    rw [e]
    refine ⟨fun h => ?_, fun h => ?_⟩
    · show s_lt y x
      rw [s_lt_eq]
      exact rx_blt.mp h
    · show s_le x y
      rw [s_le_eq]
      exact lf h
  | 5, _ =>
    have e : fy_dec 5 x y = !(Nat.blt (rx_bi y) (rx_bi x)) := by unfold fy_dec; rw [show Nat.beq 5 0 = false from rfl, cond_false, show Nat.beq 5 1 = false from rfl, cond_false, show Nat.beq 5 2 = false from rfl, cond_false, show Nat.beq 5 3 = false from rfl, cond_false, show Nat.beq 5 4 = false from rfl, cond_false]
    rw [e]
    refine ⟨fun h => ?_, fun h => ?_⟩
    · show s_le x y
      rw [s_le_eq]
      exact nl h
    · show s_lt y x
      rw [s_lt_eq]
      exact nl2 h
theorem fy_br_ok {NX NY : fx_N} (hN : fy_T NX NY) {pc k na : Nat} {lv st : List fx_V} {F : fx_F} {c : Bool} {x y : Nat} (hc : c = true → k < 6) (h : (fx_c k x y → NX na (lv.map fy_u) (st.map fy_u) F) ∧ (fx_c (ax_not k) x y → NX (Nat.add pc 3) (lv.map fy_u) (st.map fy_u) F)) : fy_br NY pc k na lv st F c x y := by
  unfold fy_br
  cases c with
  | false => exact ⟨fun z => hN _ _ _ _ (h.1 z), fun z => hN _ _ _ _ (h.2 z)⟩
  | true =>
    rw [cond_true]
    cases hd : fy_dec k x y with
    | true => exact hN _ _ _ _ (h.1 ((fy_dec_ok (hc rfl)).1 hd))
    | false => exact hN _ _ _ _ (h.2 ((fy_dec_ok (hc rfl)).2 hd))
theorem fy_sw {D D' : Nat → Prop} (hD : ∀ t, D t → D' t) {x : Nat} : ∀ {tg : List Nat} {j : Nat}, fx_sw D x tg j → fx_sw D' x tg j
  | [], _, _ => trivial
  | _ :: _, _, h => ⟨fun z => hD _ (h.1 z), fy_sw hD h.2⟩
theorem fy_go1_ok {NX NY : fx_N} (hN : fy_T NX NY) {x : ax_I} {pc : Nat} {lv st : List fx_V} {F : fx_F} (h : fx_go1 w FK FZ NX x pc (lv.map fy_u) (st.map fy_u) F) : fy_go1 w FK FZ NY x pc lv st F := by
  obtain ⟨xpc, o, i, j, na, nb, tg⟩ := x
  unfold fx_go1 at h
  unfold fy_go1
  dsimp only at h ⊢
  cases h10 : Nat.ble o 10 with
  | true =>
    rw [h10, cond_true] at h
    rw [cond_true]
    unfold fx_s1 at h
    unfold fy_s1
    cases h3 : Nat.ble o 3 with
    | true =>
      rw [h3, cond_true, rx_nth_eq, List.getElem?_map] at h
      rw [cond_true, rx_nth_eq]
      cases hv : lv[i]? with
      | none => trivial
      | some v =>
        rw [hv] at h
        replace h : (bif Nat.beq (fy_u v).1 (bif Nat.beq o 1 then 0 else bif Nat.beq o 2 then 2 else 1) then NX (Nat.add pc j) (lv.map fy_u) (fy_u v :: st.map fy_u) F else True) := h
        rw [fy_u1] at h
        show (bif Nat.beq (fy_t v.1) (bif Nat.beq o 1 then 0 else bif Nat.beq o 2 then 2 else 1) then NY (Nat.add pc j) lv (v :: st) F else True)
        cases hb : Nat.beq (fy_t v.1) (bif Nat.beq o 1 then 0 else bif Nat.beq o 2 then 2 else 1) with
        | false => trivial
        | true => rw [hb] at h; exact hN _ _ _ _ h
    | false =>
      rw [h3, cond_false] at h
      rw [cond_false]
      cases h5 : Nat.ble o 5 with
      | true =>
        rw [h5, cond_true] at h
        rw [cond_true]
        match st, h with
        | [], _ => trivial
        | v :: st', h => exact hN _ _ _ _ (by rw [fy_put]; exact h)
      | false =>
        rw [h5, cond_false] at h
        rw [cond_false]
        cases h6 : Nat.beq o 6 with
        | true =>
          rw [h6, cond_true] at h
          rw [cond_true]
          match st, h with
          | [], _ => trivial
          | v :: st', h =>
            refine hN _ _ _ _ ?_
            rw [rx_upd_eq, List.map_set, fy_put]
            replace h : NX (Nat.add pc j) (rx_upd (fx_put (lv.map fy_u) i (fy_u v)) (Nat.succ i) (3, 0)) (st'.map fy_u) F := h
            rw [rx_upd_eq] at h
            exact h
        | false =>
          rw [h6, cond_false] at h
          rw [cond_false]
          cases h7 : Nat.beq o 7 with
          | true =>
            rw [h7, cond_true] at h
            rw [cond_true]
            refine hN _ _ _ _ ?_
            rw [List.map_cons]
            have e : fy_u (bif Nat.beq i 0 then (bif Nat.ble na 1 then 4 else 0, na) else (Nat.mod na 4, Nat.div na 4)) = (bif Nat.beq i 0 then (0, na) else (Nat.mod na 4, Nat.div na 4)) := by
              cases Nat.beq i 0 with
              | true => cases Nat.ble na 1 <;> rfl
              | false =>
                rw [cond_false, cond_false]
                unfold fy_u
                rw [show Nat.beq (Nat.mod na 4) 4 = false from Bool.eq_false_iff.mpr (fun z => by
                  have z : na % 4 = 4 := rx_beq.mp z
                  omega)]
                rfl
            rw [e]
            exact h
          | false =>
            rw [h7, cond_false] at h
            rw [cond_false]
            cases h8 : Nat.beq o 8 with
            | true =>
              rw [h8, cond_true] at h
              rw [cond_true]
              exact hN _ _ _ _ h
            | false =>
              rw [h8, cond_false] at h
              rw [cond_false]
              cases h9 : Nat.beq o 9 with
              | true =>
                rw [h9, cond_true, rx_nth_eq, List.getElem?_map] at h
                rw [cond_true, rx_nth_eq]
                cases hv : lv[i]? with
                | none => trivial
                | some v =>
                  rw [hv] at h
                  replace h : (bif Nat.beq (fy_u v).1 0 then NX (Nat.add pc 3) (fx_put (lv.map fy_u) i (0, i_add (fy_u v).2 na)) (st.map fy_u) F else True) := h
                  rw [fy_u1, fy_u2] at h
                  show (bif Nat.beq (fy_t v.1) 0 then NY (Nat.add pc 3) (fx_put lv i (0, i_add v.2 na)) st F else True)
                  cases hb : Nat.beq (fy_t v.1) 0 with
                  | false => trivial
                  | true => rw [hb] at h; exact hN _ _ _ _ (by rw [fy_put]; exact h)
              | false =>
                rw [h9, cond_false] at h
                rw [cond_false]
                match st, h with
                | [], _ => trivial
                | [_], _ => trivial
                | y :: x :: st', h =>
                  replace h : fx_bp i (fun z => NX (Nat.add pc 1) (lv.map fy_u) ((0, z) :: st'.map fy_u) F) (fy_u x).2 (fy_u y).2 := h
                  rw [fy_u2, fy_u2] at h
                  exact fy_bp (fun z hz => hN _ _ _ _ hz) h
  | false =>
    rw [h10, cond_false] at h
    rw [cond_false]
    cases h21 : Nat.ble o 21 with
    | true =>
      rw [h21, cond_true] at h
      rw [cond_true]
      unfold fx_s2 at h
      unfold fy_s2
      cases h18 : Nat.beq o 18 with
      | true => rw [h18] at h; exact hN _ _ _ _ h
      | false =>
        rw [h18, cond_false] at h
        rw [cond_false]
        match st, h with
        | [], _ => trivial
        | x :: st1, h =>
          rw [List.map_cons] at h
          dsimp only at h ⊢
          rw [fy_u2] at h
          cases h11 : Nat.beq o 11 with
          | true => rw [h11] at h; exact hN _ _ _ _ h
          | false =>
            rw [h11, cond_false] at h
            rw [cond_false]
            cases h15 : Nat.beq o 15 with
            | true => rw [h15] at h; exact hN _ _ _ _ h
            | false =>
              rw [h15, cond_false] at h
              rw [cond_false]
              cases h16 : Nat.beq o 16 with
              | true => rw [h16] at h; exact hN _ _ _ _ h
              | false =>
                rw [h16, cond_false] at h
                rw [cond_false]
                cases h19 : Nat.beq o 19 with
                | true =>
                  rw [h19] at h
                  exact fy_br_ok hN (fun z => rx_blt.mp (rx_and2.mp z).1) h
                | false =>
                  rw [h19, cond_false] at h
                  rw [cond_false]
                  cases h21 : Nat.beq o 21 with
                  | true => rw [h21] at h; exact ⟨fun z => hN _ _ _ _ (h.1 z), fy_sw (fun t ht => hN _ _ _ _ ht) h.2⟩
                  | false =>
                    rw [h21, cond_false] at h
                    rw [cond_false]
                    match st1, h with
                    | [], _ => trivial
                    | x2 :: st2, h =>
                      rw [List.map_cons] at h
                      dsimp only at h ⊢
                      rw [fy_u2] at h
                      cases h12 : Nat.beq o 12 with
                      | true => rw [h12] at h; exact hN _ _ _ _ h
                      | false =>
                        rw [h12, cond_false] at h
                        rw [cond_false]
                        cases h13 : Nat.beq o 13 with
                        | true => rw [h13] at h; exact hN _ _ _ _ h
                        | false =>
                          rw [h13, cond_false] at h
                          rw [cond_false]
                          cases h14 : Nat.beq o 14 with
                          | true => rw [h14] at h; exact hN _ _ _ _ h
                          | false =>
                            rw [h14, cond_false] at h
                            rw [cond_false]
                            cases h17 : Nat.beq o 17 with
                            | true => rw [h17] at h; exact hN _ _ _ _ h
                            | false =>
                              rw [h17] at h
                              exact fy_br_ok hN (fun z => rx_blt.mp (rx_and2.mp z).1) h
    | false =>
      rw [h21, cond_false] at h
      rw [cond_false]
      unfold fx_s3 at h ⊢
      match st, h with
      | [], _ => trivial
      | x :: st1, h =>
        rw [List.map_cons] at h
        dsimp only at h ⊢
        rw [fy_u2] at h
        have ev : ∀ z, fy_u (fx_gv FK z na nb x.2 F) = fx_gv FK z na nb x.2 F := by
          intro z
          unfold fx_gv
          cases Nat.beq z.1 1 with
          | true => rfl
          | false =>
            cases Nat.beq z.1 2 with
            | true => rfl
            | false =>
              rw [cond_false, cond_false]
              unfold fy_u
              have : fx_tg FK na nb ≠ 4 := by
                unfold fx_tg
                intro z
                rcases ax_condY z with ⟨_, z⟩ | ⟨_, z⟩
                · split at z
                  · split at z
                    · rcases ax_condY z with ⟨_, z⟩ | ⟨_, z⟩ <;> cases z
                    · cases z
                  · cases z
                · rcases ax_condY z with ⟨_, z⟩ | ⟨_, z⟩
                  · cases z
                  · rcases ax_condY z with ⟨_, z⟩ | ⟨_, z⟩ <;> cases z
              rw [show Nat.beq (fx_tg FK na nb) 4 = false from Bool.eq_false_iff.mpr (fun z => this (rx_beq.mp z))]
              rfl
        cases h22 : Nat.beq o 22 with
        | true =>
          rw [h22, cond_true] at h
          rw [cond_true]
          refine hN _ _ _ _ ?_
          rw [List.map_cons, ev]
          exact h
        | false =>
          rw [h22, cond_false] at h
          rw [cond_false]
          cases h24 : Nat.beq o 24 && Nat.beq i 0 with
          | true => rw [h24] at h; exact hN _ _ _ _ h
          | false =>
            rw [h24, cond_false] at h
            rw [cond_false]
            match st1, h with
            | [], _ => trivial
            | x2 :: st2, h =>
              rw [List.map_cons] at h
              dsimp only at h ⊢
              rw [fy_u2] at h
              cases h23 : Nat.beq o 23 with
              | true => rw [h23] at h; exact hN _ _ _ _ h
              | false =>
                rw [h23, cond_false] at h
                rw [cond_false]
                cases h24 : Nat.beq o 24 with
                | true =>
                  rw [h24, cond_true] at h
                  rw [cond_true]
                  refine hN _ _ _ _ ?_
                  rw [List.map_cons]
                  have : fy_u (bif Nat.beq i 14 then 1 else bif Nat.beq i 16 then 2 else 0, F x2.2 x.2) = (bif Nat.beq i 14 then 1 else bif Nat.beq i 16 then 2 else 0, F x2.2 x.2) := by
                    cases Nat.beq i 14 with
                    | true => rfl
                    | false => cases Nat.beq i 16 <;> rfl
                  rw [this]
                  exact h
                | false =>
                  rw [h24, cond_false] at h
                  rw [cond_false]
                  match st2, h with
                  | [], _ => trivial
                  | x3 :: st3, h =>
                    rw [List.map_cons] at h
                    dsimp only at h ⊢
                    rw [fy_u2] at h
                    exact hN _ _ _ _ h
noncomputable def fy_HT (HH HY : fx_HH) : Prop := ∀ (na : Nat) (as : List fx_V) (F : fx_F) (Kt KY : fx_V → fx_F → Prop), (∀ v F', Kt (fy_u v) F' → KY v F') → HH na (as.map fy_u) F Kt → HY na as F KY
theorem fy_gi2_ok {HH HY : fx_HH} (hH : fy_HT HH HY) {NX NY : fx_N} (hN : fy_T NX NY) {R RY : fx_V → fx_F → Prop} (hR : ∀ v F', R (fy_u v) F' → RY v F') {x : ax_I} {pc : Nat} {lv st : List fx_V} {F : fx_F} (h : fx_gi2 SG HH NX R x pc (lv.map fy_u) (st.map fy_u) F) : fx_gi2 SG HY NY RY x pc lv st F := by
  unfold fx_gi2 at h ⊢
  cases h29 : Nat.ble x.2.1 29 with
  | true =>
    rw [h29, cond_true] at h
    rw [cond_true]
    match st, h with
    | [], h => exact hR (2, 0) F h
    | v :: _, h => exact hR v F h
  | false =>
    rw [h29, cond_false] at h
    rw [cond_false]
    cases h2 : Nat.beq x.2.2.2.2.2.1 2 with
    | true =>
      rw [h2, cond_true] at h
      rw [cond_true]
      match st, h with
      | [], _ => trivial
      | [_], _ => trivial
      | [_, _], _ => trivial
      | [_, _, _], _ => trivial
      | [_, _, _, _], _ => trivial
      | _ :: _ :: d :: _ :: q :: st', h =>
        replace h : NX (Nat.add pc 3) (lv.map fy_u) (st'.map fy_u) (fcp F (fy_u q).2 (fy_u d).2) := h
        rw [fy_u2, fy_u2] at h
        exact hN _ _ _ _ h
    | false =>
      rw [h2, cond_false] at h
      rw [cond_false]
      cases h1 : Nat.beq x.2.2.2.2.2.1 1 with
      | true => trivial
      | false =>
        rw [h1, cond_false] at h
        rw [cond_false]
        cases h3 : Nat.beq (Nat.mod x.2.2.2.2.2.1 4) 1 with
        | true =>
          rw [h3, cond_true] at h
          rw [cond_true]
          cases h31 : Nat.beq x.2.1 31 with
          | false =>
            rw [h31, cond_false] at h
            rw [cond_false]
            unfold fx_str at h ⊢
            match st, h with
            | [], _ => trivial
            | y :: st1, h =>
              rw [List.map_cons] at h
              dsimp only at h ⊢
              cases h13 : Nat.beq x.2.2.2.2.2.1 13 with
              | true =>
                rw [h13, cond_true] at h
                rw [cond_true]
                obtain ⟨n, h⟩ := h
                exact ⟨n, hN _ _ ((0, n) :: st1) _ h⟩
              | false =>
                rw [h13, cond_false] at h
                rw [cond_false]
                match st1, h with
                | [], _ => trivial
                | z :: st2, h =>
                  rw [List.map_cons] at h
                  dsimp only at h ⊢
                  obtain ⟨n, h⟩ := h
                  exact ⟨n, hN _ _ ((0, n) :: st2) _ h⟩
          | true =>
            rw [h31, cond_true] at h
            rw [cond_true]
            match st, h with
            | [], _ => trivial
            | [_], _ => trivial
            | y :: z :: st', h =>
              replace h : NX (Nat.add pc 3) (lv.map fy_u) ((0, bif Nat.beq x.2.2.2.2.2.1 5 then i_max (fy_u z).2 (fy_u y).2 else i_min (fy_u z).2 (fy_u y).2) :: st'.map fy_u) F := h
              rw [fy_u2, fy_u2] at h
              exact hN _ _ _ _ h
        | false =>
          rw [h3, cond_false] at h
          rw [cond_false]
          cases hs : rx_nth SG x.2.2.2.2.1 with
          | none => trivial
          | some s =>
            rw [hs] at h
            dsimp only at h ⊢
            unfold fx_ci at h ⊢
            have esp := fy_spl (bif Nat.beq x.2.1 31 then s.1 else Nat.succ s.1) st []
            rw [List.map_nil] at esp
            rw [esp] at h
            cases hq : fx_spl (bif Nat.beq x.2.1 31 then s.1 else Nat.succ s.1) st [] with
            | none => trivial
            | some q =>
              obtain ⟨as, rest⟩ := q
              rw [hq] at h
              refine hH _ as F _ _ (fun v F' hv => hN _ _ _ _ ?_) h
              cases hb : Nat.beq s.2.1 0 with
              | true => rw [hb] at hv; exact hv
              | false => rw [hb] at hv; exact hv
theorem fy_Pk_ok {HH HY : fx_HH} (hH : fy_HT HH HY) {cd : List (List ax_I)} {hd : List (Nat × List Nat)} {G : fx_N} {R RY : fx_V → fx_F → Prop} (hR : ∀ v F', R (fy_u v) F' → RY v F') : ∀ k : Nat, fy_T (fx_Pk w FK FZ SG HH cd hd G R k) (fy_Pk w FK FZ SG HY cd hd G RY k)
  | 0 => fun _ _ _ _ _ => trivial
  | k + 1 => fun pc lv st F h => by
    replace h : (match ax_lookI cd pc with
      | some x => fx_gi w FK FZ SG HH (fx_nx hd G (fx_Pk w FK FZ SG HH cd hd G R k)) R x x.1 (lv.map fy_u) (st.map fy_u) F
      | none => True) := h
    show (match ax_lookI cd pc with
      | some x => fy_gi w FK FZ SG HY (fy_nx hd G (fy_Pk w FK FZ SG HY cd hd G RY k)) RY x x.1 lv st F
      | none => True)
    have hN : fy_T (fx_nx hd G (fx_Pk w FK FZ SG HH cd hd G R k)) (fy_nx hd G (fy_Pk w FK FZ SG HY cd hd G RY k)) := by
      intro pc2 lv2 st2 F2 h2
      unfold fx_nx at h2
      unfold fy_nx
      cases hh : fx_hd hd pc2 with
      | none => rw [hh] at h2; exact fy_Pk_ok hH hR k _ _ _ _ h2
      | some m => rw [hh] at h2; exact h2
    cases hx : ax_lookI cd pc with
    | none => trivial
    | some x =>
      rw [hx] at h
      dsimp only at h ⊢
      unfold fx_gi at h
      unfold fy_gi
      cases h25 : Nat.ble x.2.1 25 with
      | true => rw [h25, cond_true] at h; rw [cond_true]; exact fy_go1_ok hN h
      | false => rw [h25, cond_false] at h; rw [cond_false]; exact fy_gi2_ok hH hN hR h
theorem fy_H0_ok : fy_HT (fx_H0 SG C) (fun na as F Kt => fx_H0 SG C na (as.map fy_u) F Kt) := by
  intro na as F Kt KY hK h
  unfold fx_H0 at h ⊢
  cases hs : rx_nth SG na with
  | none => trivial
  | some s =>
    rw [hs] at h
    dsimp only at h ⊢
    cases hb : Nat.beq s.2.1 0 with
    | true =>
      rw [hb, cond_true] at h
      rw [cond_true]
      obtain ⟨F', h1, h2⟩ := h
      exact ⟨F', h1, hK (2, 0) F' h2⟩
    | false =>
      rw [hb, cond_false] at h
      rw [cond_false]
      obtain ⟨n, F', h1, h2⟩ := h
      refine ⟨n, F', h1, hK _ F' ?_⟩
      have : fy_u (fx_tg4 s.2.1, n) = (fx_tg4 s.2.1, n) := by
        unfold fx_tg4
        cases Nat.beq s.2.1 3 with
        | true => rfl
        | false => cases Nat.beq s.2.1 4 <;> rfl
      rw [this]
      exact h2
theorem fy_Hd_ok : ∀ d, fy_HT (fx_Hd w FK FZ SG AP IL C d) (fy_Hd w FK FZ SG AP IL C d)
  | 0 => fy_H0_ok
  | d + 1 => by
    intro na as F Kt KY hK h
    replace h : (match rx_nth IL na with
      | some true => (match rx_nth AP na with
        | some cd => (match rx_nth SG na with
          | some s => fx_Pk w FK FZ SG (fx_Hd w FK FZ SG AP IL C d) cd [] (fun _ _ _ _ => True) Kt 400 0 (fx_args (as.map fy_u) s.2.2) [] F
          | none => True)
        | none => True)
      | _ => fx_H0 SG C na (as.map fy_u) F Kt) := h
    show (match rx_nth IL na with
      | some true => (match rx_nth AP na with
        | some cd => (match rx_nth SG na with
          | some s => fy_Pk w FK FZ SG (fy_Hd w FK FZ SG AP IL C d) cd [] (fun _ _ _ _ => True) KY 400 0 (fx_args as s.2.2) [] F
          | none => True)
        | none => True)
      | _ => fx_H0 SG C na (as.map fy_u) F KY)
    cases hil : rx_nth IL na with
    | none => rw [hil] at h; exact fy_H0_ok na as F Kt KY hK h
    | some b =>
      rw [hil] at h
      cases b with
      | false => exact fy_H0_ok na as F Kt KY hK h
      | true =>
        dsimp only at h ⊢
        cases hap : rx_nth AP na with
        | none => trivial
        | some cd =>
          rw [hap] at h
          dsimp only at h ⊢
          cases hs : rx_nth SG na with
          | none => trivial
          | some s =>
            rw [hs] at h
            dsimp only at h ⊢
            rw [← fy_args] at h
            exact fy_Pk_ok (fy_Hd_ok d) hK 400 0 _ [] F h
end FY
