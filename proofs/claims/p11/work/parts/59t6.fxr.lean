/-! fx: whole runs -/
noncomputable def fx_okC (CV : List Bool) (x : ax_I) : Bool := bif Nat.beq x.2.2.2.2.2.1 2 then Nat.beq x.2.1 31 else bif Nat.beq (Nat.mod x.2.2.2.2.2.1 4) 1 then (bif Nat.beq x.2.1 31 then Nat.beq x.2.2.2.2.2.1 5 || Nat.beq x.2.2.2.2.2.1 9 else Nat.beq x.2.2.2.2.2.1 13 || Nat.beq x.2.2.2.2.2.1 17) else (match rx_nth CV x.2.2.2.2.1 with
  | some b => b
  | none => false)
noncomputable def fx_yx (FZ : List (List (Nat × Nat))) (CV : List Bool) (y : rx_E) (x : ax_I) : Bool := Nat.beq y.2.2.2.2.2.1 x.2.2.2.2.1 && (Nat.beq y.2.2.2.2.2.2.1 x.2.2.2.2.2.1 && (ax_tabY x y && (bif Nat.ble x.2.1 25 then fx_okI FZ x else bif Nat.ble x.2.1 29 then true else fx_okC CV x)))
noncomputable def fx_cov1 (FZ : List (List (Nat × Nat))) (CV : List Bool) (cd : List (List ax_I)) (y : rx_E) : Bool := match ax_lookI cd y.1 with
  | some x => fx_yx FZ CV y x
  | none => false
noncomputable def fx_covB (FZ : List (List (Nat × Nat))) (CV : List Bool) (q : rx_M) (cd : List (List ax_I)) (s : Nat × Nat × Nat) : Bool := Nat.beq (rx_rc (rx_n q)) 0 && (Nat.beq (rx_rs (rx_n q)) 0 && (Nat.beq s.1 (rx_np (rx_n q)) && (Nat.beq s.2.1 (rx_rk (rx_n q)) && (Nat.beq s.2.2 (rx_mL (rx_n q)) && (rx_cd q).all (fun ch => ch.all (fx_cov1 FZ CV cd))))))
/-- how a method's answer is -/
noncomputable def fx_rt (rk v : Nat) : Prop := fx_wv v ∧ (rk = 0 → v = 2) ∧ (rk ≠ 0 → v % 4 = bif Nat.beq rk 3 then 1 else bif Nat.beq rk 4 then 2 else 0)
theorem fx_sbyt_ok : rx_sbyt.all (fun l => Nat.blt (rx_len l) 1000 && l.all (fun c => Nat.blt c 1000)) = true := by decide +kernel
theorem fx_wrd_ok {v : Nat} {l : List Nat} (h : rx_wrd v = some l) : rx_len l < 1000 ∧ ∀ c ∈ l, c < 1000 := by
  unfold rx_wrd at h
  obtain ⟨-, h⟩ := rx_cond h
  rw [rx_nth_eq] at h
  have := List.all_eq_true.mp fx_sbyt_ok l (List.mem_of_getElem? h)
  obtain ⟨h1, h2⟩ := rx_and2.mp this
  exact ⟨rx_blt.mp h1, fun c hc => rx_blt.mp (List.all_eq_true.mp h2 c hc)⟩
theorem fx_args_ws : ∀ {as : List Nat} {n : Nat}, fx_ws as → fx_ws (rx_args as n)
  | [], n, _ => by
    intro x hx
    rw [List.eq_of_mem_replicate (show x ∈ List.replicate n 2 from hx)]
    exact fx_wv_2
  | v :: as, n, h => by
    show fx_ws (bif rx_isJ v then v :: 2 :: rx_args as (n - 2) else v :: rx_args as (n - 1))
    cases rx_isJ v with
    | true => exact fx_ws_cons (fx_ws_hd h) (fx_ws_cons fx_wv_2 (fx_args_ws (fx_ws_tl h)))
    | false => exact fx_ws_cons (fx_ws_hd h) (fx_args_ws (fx_ws_tl h))
theorem fx_L.cons {lv : List fx_V} {lc : List Nat} (h : fx_L lv lc) {u : fx_V} {v : Nat} (huv : u.1 = 3 ∨ u = fx_d v) : fx_L (u :: lv) (v :: lc) := by
  refine ⟨by rw [List.length_cons, List.length_cons, h.1], fun i a b ha hb => ?_⟩
  cases i with
  | zero => cases ha; cases hb; exact huv
  | succ i => exact h.2 i a b ha hb
theorem fx_args_L : ∀ {as : List Nat} {n : Nat}, fx_L (fx_args (as.map fx_d) n) (rx_args as n)
  | [], n => by
    refine ⟨by show (List.replicate n ((3, 0) : fx_V)).length = (List.replicate n 2).length; rw [List.length_replicate, List.length_replicate], fun i a b ha hb => Or.inl ?_⟩
    have := List.mem_of_getElem? (show (List.replicate n ((3, 0) : fx_V))[i]? = some a from ha)
    rw [List.eq_of_mem_replicate this]
  | v :: as, n => by
    show fx_L (bif Nat.beq (v % 4) 1 then fx_d v :: (3, 0) :: fx_args (as.map fx_d) (n - 2) else fx_d v :: fx_args (as.map fx_d) (n - 1)) (bif Nat.beq (v % 4) 1 then v :: 2 :: rx_args as (n - 2) else v :: rx_args as (n - 1))
    cases Nat.beq (v % 4) 1 with
    | true => exact (fx_args_L.cons (Or.inl rfl)).cons (Or.inr rfl)
    | false => exact fx_args_L.cons (Or.inr rfl)
theorem fx_spl_ok : ∀ {n : Nat} {sc acc as rest : List Nat}, rx_spl n sc acc = some (as, rest) → fx_spl n (sc.map fx_d) (acc.map fx_d) = some (as.map fx_d, rest.map fx_d) ∧ (fx_ws sc → fx_ws acc → fx_ws as ∧ fx_ws rest)
  | 0, sc, acc, as, rest, h => by
    replace h : some (acc, sc) = some (as, rest) := h
    cases h
    exact ⟨rfl, fun a b => ⟨b, a⟩⟩
  | n + 1, [], acc, as, rest, h => by cases h
  | n + 1, v :: sc, acc, as, rest, h => by
    replace h : rx_spl n sc (v :: acc) = some (as, rest) := h
    obtain ⟨h1, h2⟩ := fx_spl_ok (n := n) h
    exact ⟨h1, fun a b => h2 (fx_ws_tl a) (fx_ws_cons (fx_ws_hd a) b)⟩
theorem fx_cpy_ok {w : ax_W} {FZ : List (List (Nat × Nat))} {K : rx_K} {pc : Nat} {lc sc : List Nat} {hp : rx_H} {σ : rx_S} (hFZ : FZ.length ≤ 12) (hl : fx_ws lc) (hs : fx_ws sc) (hH : fx_H w K.2 FZ hp) (h : rx_cpy pc lc sc hp [] 0 0 = some σ) : fx_wf w K.2 FZ σ ∧ σ.2.2.2.1.1 = hp.1 ∧ ∀ (NX : fx_N) (lv : List fx_V), fx_L lv lc → fx_Nx σ NX → (match sc.map fx_d with
    | _ :: _ :: d :: _ :: q :: st' => NX (Nat.add pc 3) lv st' (fcp (fx_hp hp) q.2 d.2)
    | _ => True) := by
  unfold rx_cpy at h
  match sc, hs, h with
  | n :: dp :: d :: sp :: q :: st', hs, h =>
    obtain ⟨hb, h⟩ := rx_cond h
    obtain ⟨b1, hb⟩ := rx_and2.mp hb
    obtain ⟨b2, hb⟩ := rx_and2.mp hb
    obtain ⟨b3, hb⟩ := rx_and2.mp hb
    obtain ⟨b4, hb⟩ := rx_and2.mp hb
    obtain ⟨b5, b6⟩ := rx_and2.mp hb
    have d2 : 2 ≤ d / 4 := rx_ble.mp b4
    have q2 : 2 ≤ q / 4 := rx_ble.mp b6
    cases hq : rx_hg hp (Nat.sub (rx_pl q) 2) with
    | none => rw [hq] at h; cases h
    | some zq =>
      cases hd : rx_hg hp (Nat.sub (rx_pl d) 2) with
      | none => rw [hq, hd] at h; cases h
      | some zd =>
        obtain ⟨t, m, l⟩ := zq
        obtain ⟨t2, m2, f2⟩ := zd
        rw [hq, hd] at h
        obtain ⟨hb, h1⟩ := rx_cond h
        obtain ⟨c1, hb⟩ := rx_and2.mp hb
        obtain ⟨c2, hb⟩ := rx_and2.mp hb
        obtain ⟨c3, hb⟩ := rx_and2.mp hb
        obtain ⟨c4, hb⟩ := rx_and2.mp hb
        have c1 := rx_beq.mp c1
        have c2 := rx_beq.mp c2
        have c4 := rx_beq.mp c4
        subst c1
        subst c2
        subst c4
        have hH' : fx_H w K.2 FZ (rx_hs hp (Nat.sub (rx_pl d) 2) (13, m, l)) := by
          refine ⟨hH.1, fun q' k' n' f' h' => ?_⟩
          rw [rx_hg_hs hH.1 (rx_hg_lt hd)] at h'
          by_cases hqq : q' = Nat.sub (rx_pl d) 2
          · rw [if_pos hqq] at h'
            cases h'
            obtain ⟨g1, g2, g3⟩ := hH.2 _ _ _ _ hq
            obtain ⟨e1, e2, e3⟩ := hH.2 _ _ _ _ hd
            rw [hqq]
            refine ⟨g1, e2, fun j u hu => ?_⟩
            obtain ⟨u1, u2, u3, u4⟩ := g3 j u hu
            have fz : fx_fz FZ 13 j = (0, 0) := by
              unfold fx_fz
              rw [rx_nth_eq, List.getElem?_eq_none_iff.mpr (Nat.le_trans hFZ (by decide))]
            exact ⟨u1, u2, fun z => (by rw [fz] at z; cases z), fun z => (by rw [fz] at z; cases z)⟩
          · rw [if_neg hqq] at h'
            exact hH.2 q' k' n' f' h'
        have hF : fx_hp (rx_hs hp (Nat.sub (rx_pl d) 2) (13, m, l)) = fcp (fx_hp hp) (q / 4) (d / 4) := by
          funext p j
          show fx_hp _ p j = bif Nat.beq p (d / 4) then fx_hp hp (q / 4) j else fx_hp hp p j
          unfold fx_hp
          rw [rx_hg_hs hH.1 (rx_hg_lt hd)]
          have ed : Nat.sub (rx_pl d) 2 = d / 4 - 2 := rfl
          have eq' : Nat.sub (rx_pl q) 2 = q / 4 - 2 := rfl
          rw [ed] at hd ⊢
          rw [eq'] at hq
          by_cases hpd : p = d / 4
          · subst hpd
            rw [show Nat.ble 2 (d / 4) = true from rx_ble.mpr d2, show Nat.ble 2 (q / 4) = true from rx_ble.mpr q2, if_pos rfl, Nat.beq_refl, hq]
            rfl
          · rw [show Nat.beq p (d / 4) = false from Bool.eq_false_iff.mpr (fun z => hpd (rx_beq.mp z)), cond_false]
            by_cases hp2 : 2 ≤ p
            · rw [if_neg (by omega)]
            · rw [show Nat.ble 2 p = false from Bool.eq_false_iff.mpr (fun z => hp2 (rx_ble.mp z))]
              rfl
        clear h
        cases h1
        refine ⟨⟨hl, fx_ws_tl (fx_ws_tl (fx_ws_tl (fx_ws_tl (fx_ws_tl hs)))), hH', rfl⟩, rfl, fun NX lv hL hN => ?_⟩
        have hN := hN lv hL
        rw [show fx_hp (rx_hs hp (Nat.sub (rx_pl d) 2) (13, m, l)) = fcp (fx_hp hp) (q / 4) (d / 4) from hF] at hN
        exact hN
