section AXU
variable {w : ax_W} {X : ax_X} {md : List (Nat × Nat)} {ρ : Nat → Nat} {E : ax_E} {hp : rx_H} {K : rx_K} {N : rx_N} {pc na nb : Nat} {lv st lvc stc : List Nat} {out : List ax_A}
theorem ax_tsw_in (hE : ax_EO w X ρ E hp) {x xv : Nat} (hx : ax_ev E.1 ρ x = some xv) : ∀ {tg : List Nat} {j k t : Nat}, rx_bi (xv / 4) = j + k + 2147483648 → tg[k]? = some t → ∃ E', (t, lv, st, E') ∈ ax_tsw na lv st E x tg j ∧ ax_EO w X ρ E' hp ∧ ax_Sm E E'
  | [], j, k, t, _, h => by cases h
  | u :: tg, j, 0, t, hb, h => by
    cases h
    obtain ⟨E', f1, f2, f3⟩ := ax_refine_ok (lo := Nat.add j 2147483648) (hi := Nat.add j 2147483648) hE hx (by show j + 2147483648 ≤ _; omega) (by show _ ≤ j + 2147483648; omega)
    refine ⟨E', List.mem_append_left _ (List.mem_map.mpr ⟨E', ?_, rfl⟩), f2, f3⟩
    rw [f1]
    exact List.mem_cons_self
  | u :: tg, j, k + 1, t, hb, h => by
    rw [List.getElem?_cons_succ] at h
    obtain ⟨E', f1, f2⟩ := ax_tsw_in hE hx (j := Nat.succ j) (k := k) (by show _ = j + 1 + k + 2147483648; omega) h
    exact ⟨E', List.mem_append_right _ f1, f2⟩
theorem ax_tsw_out (hE : ax_EO w X ρ E hp) {x xv : Nat} (hx : ax_ev E.1 ρ x = some xv) : ∀ {tg : List Nat} {j : Nat}, j + tg.length + 2147483648 ≤ rx_bi (xv / 4) → ∃ E', (na, lv, st, E') ∈ ax_tsw na lv st E x tg j ∧ ax_EO w X ρ E' hp ∧ ax_Sm E E'
  | [], j, hb => by
    replace hb : j + 0 + 2147483648 ≤ rx_bi (xv / 4) := hb
    obtain ⟨E', f1, f2, f3⟩ := ax_refine_ok (lo := Nat.add j 2147483648) (hi := 4294967295) hE hx (by show j + 2147483648 ≤ _; omega) (ax_bi_max _)
    refine ⟨E', List.mem_map.mpr ⟨E', ?_, rfl⟩, f2, f3⟩
    rw [f1]
    exact List.mem_cons_self
  | u :: tg, j, hb => by
    rw [List.length_cons] at hb
    obtain ⟨E', f1, f2⟩ := ax_tsw_out hE hx (tg := tg) (j := Nat.succ j) (by show j + 1 + tg.length + 2147483648 ≤ _; omega)
    exact ⟨E', List.mem_append_right _ f1, f2⟩
theorem ax_t_tsw {lo hi : Int} {offs : Array Int} {i : Nat} {tg : List Nat} (hn : (bif decide (0 ≤ lo) && (decide (hi = lo + offs.toList.length - 1) && offs.toList.all (fun o => decide (0 ≤ (pc : Int) + o))) then some (21, lo.toNat, 0, ax_tgs pc offs.toList) else none) = some ((21 : Nat), i, (0 : Nat), tg)) (hE : ax_EO w X ρ E hp) (hT : ax_HT w hp) (hl : lv.map (ax_ev E.1 ρ) = lvc.map some)
    (h : (match st with
    | x :: st' => bif ax_isK E 0 x then some ((bif Nat.beq i 0 then (ax_lst (ax_refine E x 0 2147483647)) else ax_lst (ax_refine E x 0 (Nat.add i 2147483647))).map (fun E1 => (na, lv, st', E1)) ++ ax_tsw na lv st' E x tg i) else none
    | [] => none) = some out) (hne : tg ≠ []) (hs : st.map (ax_ev E.1 ρ) = stc.map some) : ∃ σ, rx_h_tsw lo hi offs K N pc na nb lvc stc hp [] 0 0 = some [σ] ∧ ax_Res w X md ρ E.1 hp out σ := by
  obtain ⟨hc, hn⟩ := rx_cond hn
  obtain ⟨c1, hc⟩ := rx_and2.mp hc
  obtain ⟨c2, c3⟩ := rx_and2.mp hc
  have c1 : 0 ≤ lo := of_decide_eq_true c1
  have c2 : hi = lo + offs.toList.length - 1 := of_decide_eq_true c2
  cases hn
  match st, h with
  | [], h => cases h
  | x :: st', h =>
    obtain ⟨hk, h⟩ := rx_cond h
    cases h
    obtain ⟨xv, r, rfl, hx, hr⟩ := ax_evs_cons hs
    obtain ⟨k0, k1⟩ := ax_isK0 hE hk hx
    obtain ⟨l0, rfl⟩ := Int.eq_ofNat_of_zero_le c1
    have hlen : 0 < offs.toList.length := by
      cases hl0 : offs.toList with
      | nil => rw [hl0] at hne; exact absurd rfl hne
      | cons a t => exact Nat.succ_pos _
    obtain ⟨h0, hh0⟩ : ∃ h0 : Nat, hi = Int.ofNat h0 := Int.eq_ofNat_of_zero_le (by omega)
    subst hh0
    have hh : h0 + 1 = l0 + offs.toList.length := by
      rw [Int.ofNat_eq_natCast] at c2
      omega
    have ei : ((l0 : Nat) : Int).toNat = l0 := rfl
    have goal : ∀ σ : rx_S, rx_tsw1 (Nat.add l0 2147483648) (Nat.add h0 2147483648) offs pc na xv (rx_bi (xv / 4)) (rx_bi (xv / 4)) lvc r hp [] 0 0 = some [σ] → rx_h_tsw (Int.ofNat l0) (Int.ofNat h0) offs K N pc na nb lvc (xv :: r) hp [] 0 0 = some [σ] := by
      intro σ hσ
      show rx_tsw2 (rx_io [] xv) (Int.ofNat l0) (Int.ofNat h0) offs pc na xv lvc r hp [] 0 0 = some [σ]
      rw [ax_io k0]
      exact hσ
    by_cases hb1 : rx_bi (xv / 4) < l0 + 2147483648
    · refine ⟨(na, lvc, r, hp, [], 0, 0), goal _ ?_, ?_⟩
      · unfold rx_tsw1
        rw [rx_blt.mpr (show rx_bi (xv / 4) < Nat.add l0 2147483648 from hb1)]
        rfl
      · obtain ⟨E', f1, f2, f3⟩ := ax_refine_ok (lo := 0) (hi := Nat.add l0 2147483647) hE hx (Nat.zero_le _) (by show _ ≤ l0 + 2147483647; omega)
        refine ax_Sm_res hT f2 f3 hl hr (List.mem_append_left _ (List.mem_map.mpr ⟨E', ?_, rfl⟩))
        rw [ei]
        cases hz : Nat.beq l0 0 with
        | false => rw [cond_false, f1]; exact List.mem_cons_self
        | true =>
          have hz := rx_beq.mp hz
          subst hz
          rw [cond_true]
          have e0 : Nat.add 0 2147483647 = 2147483647 := Nat.zero_add _
          rw [e0] at f1
          rw [f1]
          exact List.mem_cons_self
    · by_cases hb2 : rx_bi (xv / 4) < l0 + offs.toList.length + 2147483648
      · obtain ⟨k, hk2⟩ : ∃ k, rx_bi (xv / 4) = l0 + k + 2147483648 := ⟨rx_bi (xv / 4) - (l0 + 2147483648), by omega⟩
        have hkl : k < offs.toList.length := by omega
        have ho : offs.toList[k]? = some offs.toList[k] := List.getElem?_eq_getElem hkl
        have hoff := of_decide_eq_true (List.all_eq_true.mp c3 _ (List.getElem_mem hkl))
        obtain ⟨t, ht⟩ := Int.eq_ofNat_of_zero_le hoff
        have htg : (ax_tgs pc offs.toList)[k]? = some t := by
          unfold ax_tgs
          rw [List.getElem?_map, ho]
          show some ((pc : Int) + offs.toList[k]).toNat = some t
          rw [ht]
          rfl
        obtain ⟨E', f1, f2, f3⟩ := ax_tsw_in (na := na) (lv := lv) (st := st') hE hx hk2 htg
        refine ⟨(t, lvc, r, hp, [], 0, 0), goal _ ?_, ax_Sm_res hT f2 f3 hl hr (List.mem_append_right _ f1)⟩
        unfold rx_tsw1
        rw [show Nat.blt (rx_bi (xv / 4)) (Nat.add l0 2147483648) = false from Bool.eq_false_iff.mpr (fun z => hb1 (rx_blt.mp z)), show Nat.blt (Nat.add h0 2147483648) (rx_bi (xv / 4)) = false from Bool.eq_false_iff.mpr (fun z => by have z : h0 + 2147483648 < rx_bi (xv / 4) := rx_blt.mp z; omega), Nat.beq_refl]
        have e1 : Nat.sub (rx_bi (xv / 4)) (Nat.add l0 2147483648) = k := by show rx_bi (xv / 4) - (l0 + 2147483648) = k; omega
        rw [e1]
        show (match offs[k]? with
          | some o => (match (pc : Int) + o with
            | .ofNat t => some [(t, lvc, r, hp, [], 0, 0)]
            | _ => none)
          | none => none) = _
        rw [← Array.getElem?_toList, ho]
        show (match (pc : Int) + offs.toList[k] with
            | .ofNat t => some [(t, lvc, r, hp, [], 0, 0)]
            | _ => none) = _
        rw [ht]
      · obtain ⟨E', f1, f2, f3⟩ := ax_tsw_out (na := na) (lv := lv) (st := st') hE hx (tg := ax_tgs pc offs.toList) (j := l0) (by unfold ax_tgs; rw [List.length_map]; omega)
        refine ⟨(na, lvc, r, hp, [], 0, 0), goal _ ?_, ax_Sm_res hT f2 f3 hl hr (List.mem_append_right _ f1)⟩
        unfold rx_tsw1
        rw [rx_blt.mpr (show Nat.add h0 2147483648 < rx_bi (xv / 4) by show h0 + 2147483648 < _; omega), Bool.or_true]
        rfl
/-- a cell, its region, its content -/
theorem ax_cell (hE : ax_EO w X ρ E hp) (hT : ax_HT w hp) {a av g : Nat} (ha : ax_ev E.1 ρ a = some av) (hg : ax_rg w E a = some g) : av % 4 = 2 ∧ 2 ≤ av / 4 ∧ av / 4 < 258 ∧ w.1[av / 4 - 2]? = some g ∧ ∃ (k n : Nat) (l : List (Nat × ax_Y)) (f : List Nat), w.2.1[g]? = some (k, n, l) ∧ rx_hg hp (av / 4 - 2) = some (k, n, f) ∧ f.length = n ∧ ∀ i v : Nat, f[i]? = some v → ∃ t, ax_at l i = some t ∧ ax_ok w t v := by
  obtain ⟨h1, h2, h3, h4⟩ := ax_rg_ok hE hg ha
  exact ⟨h1, h2, h3, h4, hT.2 _ _ h4⟩
theorem ax_tag2 {v : Nat} (h1 : v % 4 = 2) (h2 : 2 ≤ v / 4) : (Nat.beq (rx_tk v) 2 && Nat.ble 2 (rx_pl v)) = true := rx_and2.mpr ⟨rx_beq.mpr h1, rx_ble.mpr h2⟩
theorem ax_t_gf (hE : ax_EO w X ρ E hp) (hT : ax_HT w hp) (hl : lv.map (ax_ev E.1 ρ) = lvc.map some) (hs : st.map (ax_ev E.1 ρ) = stc.map some)
    (h : ax_h_gf w pc na nb lv st E = some out) : ∃ σ, rx_h_gf K N pc na nb lvc stc hp [] 0 0 = some [σ] ∧ ax_Res w X md ρ E.1 hp out σ := by
  match st, h, hs with
  | [], h, _ => cases h
  | a :: st', h, hs =>
    unfold ax_h_gf at h
    dsimp only at h
    cases eg : ax_rg w E a with
    | none => rw [eg] at h; cases h
    | some g =>
      rw [eg] at h
      dsimp only at h
      rw [rx_nth_eq] at h
      obtain ⟨av, r, rfl, ha, hr⟩ := ax_evs_cons hs
      obtain ⟨h1, h2, h3, h4, k, n, l, f, p1, p2, p3, p4⟩ := ax_cell hE hT ha eg
      rw [p1] at h
      dsimp only at h
      obtain ⟨hc, h⟩ := rx_cond h
      obtain ⟨c1, c2⟩ := rx_and2.mp hc
      have c2 : nb < n := rx_blt.mp c2
      cases er : ax_rd w E a (rx_int nb) (ax_at l nb) with
      | none => rw [er] at h; cases h
      | some z =>
        obtain ⟨c, E'⟩ := z
        rw [er] at h
        cases h
        have hlt : nb < f.length := by rw [p3]; exact c2
        have hfv : f[nb]? = some f[nb] := List.getElem?_eq_getElem hlt
        have i4 : rx_int nb / 4 = nb := by show 4 * nb / 4 = nb; omega
        have m4 : rx_int nb % 4 = 0 := by show 4 * nb % 4 = 0; omega
        obtain ⟨n1, ρ', a1, a2, a3⟩ := ax_rd_ok hE ha (ax_ev_c (v := rx_int nb) (by omega)) h1 h2 m4 p2 (by rw [i4]; exact hfv) (fun y hy => by obtain ⟨t, t1, t2⟩ := p4 nb _ hfv; cases hy.symm.trans t1; exact t2) er
        refine ⟨(Nat.add pc 3, lvc, f[nb] :: r, hp, [], 0, 0), ?_, ax_new1 hT n1 a1 a2 (ax_evs_mono n1 a1 hl) (ax_evs_push a3 (ax_evs_mono n1 a1 hr)) List.mem_cons_self⟩
        show (bif Nat.beq (rx_tk av) 2 && Nat.ble 2 (rx_pl av) then (match rx_hg hp (Nat.sub (rx_pl av) 2) with
          | some (t, _, l) => bif Nat.beq t na then (match rx_nth l nb with
              | some x => some [(Nat.add pc 3, lvc, x :: r, hp, [], 0, 0)]
              | none => none) else none
          | none => none) else none) = _
        rw [ax_tag2 h1 h2, show rx_hg hp (Nat.sub (rx_pl av) 2) = some (k, n, f) from p2]
        show (bif Nat.beq k na then (match rx_nth f nb with
              | some x => some [(Nat.add pc 3, lvc, x :: r, hp, [], 0, 0)]
              | none => none) else none) = _
        rw [c1, rx_nth_eq, hfv]
        rfl
theorem ax_bit_ok {v : Nat} (h0 : v % 4 = 0) (h1 : v / 4 < 4294967296) (h2 : 2147483648 ≤ rx_bi (v / 4)) (h3 : rx_bi (v / 4) ≤ 2147483649) : rx_bit v = true := by
  rw [ax_bi_def] at h2 h3
  have : v = 0 ∨ v = 4 := by omega
  rcases this with rfl | rfl
  · rfl
  · rfl
theorem ax_t_pf (hX : ax_XD w X) (hE : ax_EO w X ρ E hp) (hT : ax_HT w hp) (hl : lv.map (ax_ev E.1 ρ) = lvc.map some) (hs : st.map (ax_ev E.1 ρ) = stc.map some)
    (h : ax_h_pf w K md pc na nb lv st E = some out) : ∃ σ, rx_h_pf K N pc na nb lvc stc hp [] 0 0 = some [σ] ∧ ax_Res w X md ρ E.1 hp out σ := by
  match st, h, hs with
  | [], h, _ => cases h
  | [_], h, _ => cases h
  | v :: a :: st', h, hs =>
    unfold ax_h_pf at h
    dsimp only at h
    cases eg : ax_rg w E a with
    | none => rw [eg] at h; cases h
    | some g =>
      cases et : ax_typ E v with
      | none => rw [eg, et] at h; cases h
      | some t =>
        rw [eg, et] at h
        dsimp only at h
        rw [rx_nth_eq] at h
        obtain ⟨vv, r1, rfl, hv, hr1⟩ := ax_evs_cons hs
        obtain ⟨av, r, rfl, ha, hr⟩ := ax_evs_cons hr1
        obtain ⟨h1, h2, h3, h4, k, n, l, f, p1, p2, p3, p4⟩ := ax_cell hE hT ha eg
        rw [p1] at h
        dsimp only at h
        obtain ⟨hc, h⟩ := rx_cond h
        obtain ⟨c1, hc⟩ := rx_and2.mp hc
        obtain ⟨c2, hc⟩ := rx_and2.mp hc
        obtain ⟨c3, c4⟩ := rx_and2.mp hc
        have c2' : nb < n := rx_blt.mp c2
        cases ek : rx_nth K.2 na with
        | none => rw [ek] at h; cases h
        | some ks =>
          rw [ek] at h
          dsimp only at h
          cases ed : rx_nth ks nb with
          | none => rw [ed] at h; cases h
          | some kd =>
            rw [ed] at h
            dsimp only at h
            obtain ⟨hk, h⟩ := rx_cond h
            cases h
            have hok := ax_typ_ok hE et hv
            have hfok : rx_fok kd vv = true := by
              rcases rx_or2.mp hk with hk | hk
              · obtain ⟨k1, k2⟩ := rx_and2.mp hk
                have k1 := rx_beq.mp k1
                have k2 := rx_beq.mp k2
                subst k1
                rcases hok with ⟨-, q, -⟩ | ⟨q, -⟩ | ⟨q, -⟩ | ⟨q, -⟩
                · exact rx_or2.mpr (Or.inl (rx_beq.mpr q))
                · omega
                · omega
                · omega
              rcases rx_or2.mp hk with hk | hk
              · obtain ⟨k1, hk⟩ := rx_and2.mp hk
                obtain ⟨k2, hk⟩ := rx_and2.mp hk
                obtain ⟨k3, k4⟩ := rx_and2.mp hk
                have k1 := rx_beq.mp k1
                have k2 := rx_beq.mp k2
                subst k1
                rcases hok with ⟨-, q1, q2, q3, q4⟩ | ⟨q, -⟩ | ⟨q, -⟩ | ⟨q, -⟩
                · exact ax_bit_ok q1 q2 (Nat.le_trans (rx_ble.mp k3) q3) (Nat.le_trans q4 (rx_ble.mp k4))
                · omega
                · omega
                · omega
              · obtain ⟨k1, k2⟩ := rx_and2.mp hk
                have k1 := rx_beq.mp k1
                subst k1
                exact rx_beq.mpr (ax_isRok hE k2 hv).1
            have i4 : rx_int nb / 4 = nb := by show 4 * nb / 4 = nb; omega
            have m4 : rx_int nb % 4 = 0 := by show 4 * nb % 4 = 0; omega
            have idx : ax_idx (rx_int nb) = nb := by
              unfold ax_idx
              have : ax_cst (rx_int nb) = true := by
                unfold ax_cst
                rw [show Nat.beq (rx_tk (rx_int nb)) 3 = false from Bool.eq_false_iff.mpr (fun z => by have z : rx_int nb % 4 = 3 := rx_beq.mp z; omega)]
                rfl
              rw [this]
              exact i4
            obtain ⟨b1, b2, b3⟩ := ax_wr_ok hX hE hT ha (ax_ev_c (v := rx_int nb) (by omega)) hv h1 h2 m4 h4 p1 p2 p3 (by rw [i4]; exact c2') (by rw [i4]; exact ax_fits_ok c3 (Nat.le_refl _) (Nat.le_refl _) hok)
            rw [i4] at b1 b2 b3
            refine ⟨(Nat.add pc 3, lvc, r, rx_hs hp (av / 4 - 2) (k, n, f.set nb vv), [], 0, 0), ?_, ⟨_, List.mem_cons_self, ρ, _, fun _ _ => rfl, Nat.le_refl _, ⟨rfl, hl, hr, rfl, b1, b2⟩, b3.wk ?_⟩⟩
            · show (bif Nat.beq (rx_tk av) 2 && Nat.ble 2 (rx_pl av) then (match rx_hg hp (Nat.sub (rx_pl av) 2) with
                | some (t, n, l) => (match rx_nth K.2 na with
                  | some ks => (match rx_nth ks nb with
                    | some k => bif Nat.beq t na && (Nat.blt nb n && rx_fok k vv) then some [(Nat.add pc 3, lvc, r, rx_hs hp (Nat.sub (rx_pl av) 2) (t, n, rx_upd l nb vv), [], 0, 0)] else none
                    | none => none)
                  | none => none)
                | none => none) else none) = _
              rw [ax_tag2 h1 h2, show rx_hg hp (Nat.sub (rx_pl av) 2) = some (k, n, f) from p2, ek]
              dsimp only [cond_true]
              rw [ed]
              dsimp only
              rw [c1, c2, hfok, rx_upd_eq]
              rfl
            · rw [idx]
              exact ax_mem_one c4
end AXU
