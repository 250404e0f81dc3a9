section FXU
variable {w : ax_W} {FZ : List (List (Nat × Nat))} {K : rx_K} {N : rx_N} {pc na nb : Nat} {lc sc : List Nat} {hp : rx_H} {l' : List rx_S}
theorem fx_hp_at {q k n i x : Nat} {f : List Nat} (h : rx_hg hp q = some (k, n, f)) (hi : f[i]? = some x) : fx_hp hp (q + 2) i = x / 4 := by
  unfold fx_hp
  rw [show Nat.ble 2 (q + 2) = true from rx_ble.mpr (by omega), cond_true, show q + 2 - 2 = q by omega, h]
  show (f[i]?.getD 0) / 4 = x / 4
  rw [hi]
  rfl
/-- a cell is written: the new heap -/
theorem fx_hp_wr {q k n i v : Nat} {f : List Nat} (h8 : hp.1 ≤ 256) (h : rx_hg hp q = some (k, n, f)) (hi : i < f.length) : fx_hp (rx_hs hp q (k, n, f.set i v)) = fu (fx_hp hp) (q + 2) i (v / 4) := by
  funext p j
  have hg := fun q' => rx_hg_hs h8 (q' := q') (c := (k, n, f.set i v)) (rx_hg_lt h)
  show fx_hp _ p j = bif (Nat.beq p (q + 2) && Nat.beq j i) then v / 4 else fx_hp hp p j
  unfold fx_hp
  rw [hg]
  by_cases hp2 : 2 ≤ p
  · rw [show Nat.ble 2 p = true from rx_ble.mpr hp2, cond_true, cond_true]
    by_cases hpq : p - 2 = q
    · rw [if_pos hpq, show Nat.beq p (q + 2) = true from rx_beq.mpr (by omega), Bool.true_and, hpq, h]
      dsimp only
      rw [List.getElem?_set]
      by_cases hij : i = j
      · rw [if_pos hij, show Nat.beq j i = true from rx_beq.mpr hij.symm, cond_true]
        rw [if_pos hi]
        rfl
      · rw [if_neg hij, show Nat.beq j i = false from Bool.eq_false_iff.mpr (fun z => hij (rx_beq.mp z).symm), cond_false]
    · rw [if_neg hpq, show Nat.beq p (q + 2) = false from Bool.eq_false_iff.mpr (fun z => hpq (by have := rx_beq.mp z; omega)), Bool.false_and, cond_false]
  · rw [show Nat.ble 2 p = false from Bool.eq_false_iff.mpr (fun z => hp2 (rx_ble.mp z)), cond_false, cond_false, show Nat.beq p (q + 2) = false from Bool.eq_false_iff.mpr (fun z => hp2 (by have := rx_beq.mp z; omega)), Bool.false_and, cond_false]
theorem fx_H_wr {FK : List (List Nat)} {q k n i v : Nat} {f : List Nat} (hH : fx_H w FK FZ hp) (h : rx_hg hp q = some (k, n, f)) (hv : fx_ft FK FZ q k i v) : fx_H w FK FZ (rx_hs hp q (k, n, f.set i v)) ∧ (rx_hs hp q (k, n, f.set i v)).1 = hp.1 := by
  refine ⟨⟨hH.1, fun q' k' n' f' h' => ?_⟩, rfl⟩
  rw [rx_hg_hs hH.1 (rx_hg_lt h)] at h'
  by_cases hq : q' = q
  · rw [if_pos hq] at h'
    cases h'
    subst hq
    obtain ⟨g1, g2, g3⟩ := hH.2 _ _ _ _ h
    refine ⟨by rw [List.length_set]; exact g1, g2, fun j u hu => ?_⟩
    rw [List.getElem?_set] at hu
    by_cases hij : i = j
    · rw [if_pos hij] at hu
      by_cases hl : i < f.length
      · rw [if_pos hl] at hu
        cases hu
        rw [← hij]
        exact hv
      · rw [if_neg hl] at hu; cases hu
    · rw [if_neg hij] at hu
      exact g3 j u hu
  · rw [if_neg hq] at h'
    exact hH.2 q' k' n' f' h'
theorem fx_tag {v : Nat} (h : (Nat.beq (rx_tk v) 2 && Nat.ble 2 (rx_pl v)) = true) : v % 4 = 2 ∧ 2 ≤ v / 4 := by
  obtain ⟨h1, h2⟩ := rx_and2.mp h
  exact ⟨rx_beq.mp h1, rx_ble.mp h2⟩
theorem fx_pq {v : Nat} (h : 2 ≤ v / 4) : v / 4 = v / 4 - 2 + 2 := by omega
theorem fx_t_gf {i : Nat} (hl : fx_ws lc) (hs : fx_ws sc) (hH : fx_H w K.2 FZ hp) (h : rx_h_gf K N pc na nb lc sc hp [] 0 0 = some l') : fx_Re w K.2 FZ (fun NX lv => fx_s3 w K.2 FZ NX pc 22 i na nb lv (sc.map fx_d) (fx_hp hp)) lc hp l' := by
  unfold rx_h_gf at h
  match sc, hs, h with
  | [], hs, h => cases h
  | v :: s', hs, h =>
    obtain ⟨hb, h⟩ := rx_cond h
    obtain ⟨t2, p2⟩ := fx_tag hb
    cases hz : rx_hg hp (Nat.sub (rx_pl v) 2) with
    | none => rw [hz] at h; cases h
    | some z =>
      obtain ⟨k, n, f⟩ := z
      rw [hz] at h
      obtain ⟨hk, h1⟩ := rx_cond h
      have hk := rx_beq.mp hk
      clear h hb
      subst hk
      rw [rx_nth_eq] at h1
      cases hx : f[nb]? with
      | none => rw [hx] at h1; cases h1
      | some x =>
        rw [hx] at h1
        cases h1
        obtain ⟨g1, g2, g3⟩ := hH.2 _ _ _ _ hz
        obtain ⟨x1, x2, x3, x4⟩ := g3 nb x hx
        refine fx_r1 hl (fx_ws_cons x1 (fx_ws_tl hs)) hH (fun NX lv h => ?_)
        have hF : fx_hp hp (v / 4) nb = x / 4 := by
          rw [fx_pq p2]
          exact fx_hp_at hz hx
        have ex : fx_gv K.2 (fx_fz FZ k nb) k nb (v / 4) (fx_hp hp) = fx_d x := by
          unfold fx_gv
          cases e1 : Nat.beq (fx_fz FZ k nb).1 1 with
          | true =>
            have := x3 (rx_beq.mp e1)
            rw [cond_true]
            show ((2, v / 4 + (fx_fz FZ k nb).2) : fx_V) = (x % 4, x / 4)
            have q1 : Nat.sub (rx_pl v) 2 = v / 4 - 2 := rfl
            rw [q1] at this
            have a1 : x % 4 = 2 := by omega
            have a2 : x / 4 = v / 4 + (fx_fz FZ k nb).2 := by omega
            rw [a1, a2]
          | false =>
            rw [cond_false]
            cases e2 : Nat.beq (fx_fz FZ k nb).1 2 with
            | true =>
              have := x4 (rx_beq.mp e2)
              rw [cond_true]
              show ((2, (fx_fz FZ k nb).2) : fx_V) = (x % 4, x / 4)
              have a1 : x % 4 = 2 := by omega
              have a2 : x / 4 = (fx_fz FZ k nb).2 := by omega
              rw [a1, a2]
            | false =>
              rw [cond_false, hF, ← x2]
              rfl
        show NX (Nat.add pc 3) lv (fx_gv K.2 (fx_fz FZ k nb) k nb (v / 4) (fx_hp hp) :: s'.map fx_d) (fx_hp hp)
        rw [ex]
        exact h
theorem fx_t_pf {i : Nat} (hfz : Nat.beq (fx_fz FZ na nb).1 0 = true) (h12 : na < 12) (hl : fx_ws lc) (hs : fx_ws sc) (hH : fx_H w K.2 FZ hp) (h : rx_h_pf K N pc na nb lc sc hp [] 0 0 = some l') : fx_Re w K.2 FZ (fun NX lv => fx_s3 w K.2 FZ NX pc 23 i na nb lv (sc.map fx_d) (fx_hp hp)) lc hp l' := by
  unfold rx_h_pf at h
  match sc, hs, h with
  | [], hs, h => cases h
  | [_], hs, h => cases h
  | x :: v :: s', hs, h =>
    obtain ⟨hb, h⟩ := rx_cond h
    obtain ⟨t2, p2⟩ := fx_tag hb
    cases hz : rx_hg hp (Nat.sub (rx_pl v) 2) with
    | none => rw [hz] at h; cases h
    | some z =>
      obtain ⟨k, n, f⟩ := z
      rw [hz] at h
      dsimp only at h
      cases e1 : rx_nth K.2 na with
      | none => rw [e1] at h; cases h
      | some ks =>
        rw [e1] at h
        dsimp only at h
        cases e2 : rx_nth ks nb with
        | none => rw [e2] at h; cases h
        | some kd =>
          rw [e2] at h
          obtain ⟨hc, h1⟩ := rx_cond h
          obtain ⟨c1, hc⟩ := rx_and2.mp hc
          obtain ⟨c2, c3⟩ := rx_and2.mp hc
          have c1 := rx_beq.mp c1
          clear h hb hc
          subst c1
          have c2 : nb < n := rx_blt.mp c2
          obtain ⟨g1, g2, g3⟩ := hH.2 _ _ _ _ hz
          rw [rx_upd_eq] at h1
          cases h1
          have wx := fx_ws_hd hs
          have hft : fx_ft K.2 FZ (Nat.sub (rx_pl v) 2) k nb x := by
            refine ⟨wx, ?_, fun z => ?_, fun z => ?_⟩
            · unfold fx_tg
              rw [show Nat.blt k 12 = true from rx_blt.mpr h12, cond_true, e1]
              dsimp only
              rw [e2]
              dsimp only
              rcases ax_condY c3 with ⟨d, c3⟩ | ⟨d, c3⟩
              · rw [rx_beq.mp d]; exact fx_isI wx c3
              rcases ax_condY c3 with ⟨d, c3⟩ | ⟨d, c3⟩
              · rw [rx_beq.mp d]
                rcases rx_or2.mp c3 with c3 | c3
                · rw [rx_beq.mp c3]; rfl
                · rw [rx_beq.mp c3]; rfl
              rcases ax_condY c3 with ⟨d, c3⟩ | ⟨d, c3⟩
              · rw [rx_beq.mp d]; exact rx_beq.mp c3
              · cases c3
            · rw [rx_beq.mp hfz] at z; cases z
            · rw [rx_beq.mp hfz] at z; cases z
          obtain ⟨H1, H2⟩ := fx_H_wr hH hz hft
          refine ⟨_, rfl, ⟨hl, fx_ws_tl (fx_ws_tl hs), H1, rfl⟩, H2, fun NX lv hL hN => ?_⟩
          have hN := hN lv hL
          rw [show fx_hp (rx_hs hp (Nat.sub (rx_pl v) 2) (k, n, f.set nb x)) = fu (fx_hp hp) (v / 4) nb (x / 4) by
            rw [fx_hp_wr hH.1 hz (by rw [g1]; exact c2)]
            rw [show Nat.sub (rx_pl v) 2 + 2 = v / 4 from (fx_pq p2).symm]] at hN
          exact hN
theorem fx_t_alen (hsl : rx_sl N = 0) (hl : fx_ws lc) (hs : fx_ws sc) {FK : List (List Nat)} (hH : fx_H w FK FZ hp) (h : rx_h_alen K N pc na nb lc sc hp [] 0 0 = some l') (hn : ∀ p, fx_len w p < 4294967296) : fx_Re w FK FZ (fun NX lv => fx_s3 w FK FZ NX pc 24 0 na nb lv (sc.map fx_d) (fx_hp hp)) lc hp l' := by
  unfold rx_h_alen at h
  match sc, hs, h with
  | [], hs, h => cases h
  | v :: s', hs, h =>
    rcases ax_condY h with ⟨d, h⟩ | ⟨d, h⟩
    · rw [hsl] at h; cases h
    obtain ⟨hb, h⟩ := rx_cond h
    obtain ⟨t2, p2⟩ := fx_tag hb
    cases hz : rx_hg hp (Nat.sub (rx_pl v) 2) with
    | none => rw [hz] at h; cases h
    | some z =>
      obtain ⟨k, n, f⟩ := z
      rw [hz] at h
      obtain ⟨-, h⟩ := rx_cond h
      cases h
      obtain ⟨g1, ⟨g, l, g2, g4⟩, g3⟩ := hH.2 _ _ _ _ hz
      have el : fx_len w (v / 4) = n := by
        unfold fx_len
        rw [rx_nth_eq, show w.1[Nat.sub (v / 4) 2]? = some g from g2]
        dsimp only
        rw [rx_nth_eq, g4]
      refine fx_r1 hl (fx_ws_cons (fx_wv_int (by rw [← el]; exact hn _)) (fx_ws_tl hs)) hH (fun NX lv h => ?_)
      rw [List.map_cons, fx_d_int] at h
      show NX (Nat.add pc 1) lv ((0, fx_len w (v / 4)) :: s'.map fx_d) (fx_hp hp)
      rw [el]
      exact h
theorem fx_half {pcx v : Nat} (hv : fx_wv v) (h0 : ¬ v % 4 = 0) (h : rx_half pcx lc sc hp [] 0 0 v = some l') : False := by
  unfold rx_half at h
  have : rx_io [] v = none := by
    unfold rx_io
    rw [show Nat.beq (rx_tk v) 0 = false from Bool.eq_false_iff.mpr (fun z => h0 (rx_beq.mp z)), cond_false, show Nat.beq (rx_tk v) 3 = false from Bool.eq_false_iff.mpr (fun z => hv.1 (rx_beq.mp z))]
    rfl
  rw [this] at h
  cases h
theorem fx_t_ald {FK : List (List Nat)} {ok : Nat → Bool} {i : Nat} (hi : Nat.beq i 0 = false) (hok : ∀ t j, ok t = true → fx_tg FK t j = bif Nat.beq i 14 then 1 else bif Nat.beq i 16 then 2 else 0) (hsl : rx_sl N = 0) (hl : fx_ws lc) (hs : fx_ws sc) (hH : fx_H w FK FZ hp) (h : rx_h_ald ok K N pc na nb lc sc hp [] 0 0 = some l') : fx_Re w FK FZ (fun NX lv => fx_s3 w FK FZ NX pc 24 i na nb lv (sc.map fx_d) (fx_hp hp)) lc hp l' := by
  unfold rx_h_ald at h
  match sc, hs, h with
  | [], hs, h => cases h
  | [_], hs, h => cases h
  | ix :: v :: s', hs, h =>
    dsimp only at h
    rw [ax_kn, hsl] at h
    rcases ax_condY h with ⟨d, h⟩ | ⟨d, h⟩
    · obtain ⟨hb, -⟩ := rx_cond h
      obtain ⟨-, hb⟩ := rx_and2.mp hb
      obtain ⟨-, hb⟩ := rx_and2.mp hb
      exact absurd (rx_blt.mp hb) (Nat.not_lt_zero _)
    obtain ⟨hb, h⟩ := rx_cond h
    obtain ⟨t2, p2⟩ := fx_tag hb
    cases hz : rx_hg hp (Nat.sub (rx_pl v) 2) with
    | none => rw [hz] at h; cases h
    | some z =>
      obtain ⟨k, n, f⟩ := z
      rw [hz] at h
      rcases ax_condY h with ⟨d, h⟩ | ⟨d, h⟩
      · obtain ⟨hb, h⟩ := rx_cond h
        obtain ⟨b1, b2⟩ := rx_and2.mp hb
        rw [rx_nth_eq] at h
        cases hx : f[rx_pl ix]? with
        | none => rw [hx] at h; cases h
        | some x =>
          rw [hx] at h
          cases h
          obtain ⟨g1, g2, g3⟩ := hH.2 _ _ _ _ hz
          obtain ⟨x1, x2, x3, x4⟩ := g3 _ x hx
          refine fx_r1 hl (fx_ws_cons x1 (fx_ws_tl (fx_ws_tl hs))) hH (fun NX lv h => ?_)
          have hF : fx_hp hp (v / 4) (ix / 4) = x / 4 := by
            rw [fx_pq p2]
            exact fx_hp_at hz hx
          have e : ((bif Nat.beq i 14 then 1 else bif Nat.beq i 16 then 2 else 0, fx_hp hp (v / 4) (ix / 4)) : fx_V) = fx_d x := by
            rw [hF, ← hok k (rx_pl ix) b1, ← x2]
            rfl
          show (bif Nat.beq 24 24 && Nat.beq i 0 then NX (Nat.add pc 1) lv _ (fx_hp hp) else _)
          rw [hi]
          show NX (Nat.add pc 1) lv ((bif Nat.beq i 14 then 1 else bif Nat.beq i 16 then 2 else 0, fx_hp hp (v / 4) (ix / 4)) :: s'.map fx_d) (fx_hp hp)
          rw [e]
          exact h
      · exact (fx_half (fx_ws_hd hs) (fun z => by rw [show Nat.beq (rx_tk ix) 0 = true from rx_beq.mpr z] at d; cases d) h).elim
theorem fx_t_ast {FK : List (List Nat)} {ok : Nat → Nat → Bool} {i : Nat} (hok : ∀ t j x, fx_wv x → ok t x = true → 12 ≤ t ∧ x % 4 = fx_tg FK t j) (hFZ : FZ.length ≤ 12) (hl : fx_ws lc) (hs : fx_ws sc) (hH : fx_H w FK FZ hp) (h : rx_ast ok pc lc sc hp [] 0 0 = some l') : fx_Re w FK FZ (fun NX lv => fx_s3 w FK FZ NX pc 25 i na nb lv (sc.map fx_d) (fx_hp hp)) lc hp l' := by
  unfold rx_ast at h
  match sc, hs, h with
  | [], hs, h => cases h
  | [_], hs, h => cases h
  | [_, _], hs, h => cases h
  | x :: ix :: v :: s', hs, h =>
    dsimp only at h
    rw [ax_kn] at h
    obtain ⟨hb, h⟩ := rx_cond h
    obtain ⟨t2, p2⟩ := fx_tag hb
    cases hz : rx_hg hp (Nat.sub (rx_pl v) 2) with
    | none => rw [hz] at h; cases h
    | some z =>
      obtain ⟨k, n, f⟩ := z
      rw [hz] at h
      rcases ax_condY h with ⟨d, h⟩ | ⟨d, h⟩
      · obtain ⟨hb, h⟩ := rx_cond h
        obtain ⟨b1, b2⟩ := rx_and2.mp hb
        obtain ⟨b2, b3⟩ := rx_and2.mp b2
        have b2 : rx_pl ix < n := rx_blt.mp b2
        rw [rx_upd_eq] at h
        cases h
        obtain ⟨g1, g2, g3⟩ := hH.2 _ _ _ _ hz
        have wx := fx_ws_hd hs
        obtain ⟨k12, tg⟩ := hok k (rx_pl ix) x wx b1
        have fz : fx_fz FZ k (rx_pl ix) = (0, 0) := by
          unfold fx_fz
          rw [rx_nth_eq, List.getElem?_eq_none_iff.mpr (Nat.le_trans hFZ k12)]
        obtain ⟨H1, H2⟩ := fx_H_wr (i := rx_pl ix) (v := x) hH hz ⟨wx, tg, fun z => (by rw [fz] at z; cases z), fun z => (by rw [fz] at z; cases z)⟩
        refine ⟨_, rfl, ⟨hl, fx_ws_tl (fx_ws_tl (fx_ws_tl hs)), H1, rfl⟩, H2, fun NX lv hL hN => ?_⟩
        have hN := hN lv hL
        rw [show fx_hp (rx_hs hp (Nat.sub (rx_pl v) 2) (k, n, f.set (rx_pl ix) x)) = fu (fx_hp hp) (v / 4) (ix / 4) (x / 4) by
          rw [fx_hp_wr hH.1 hz (by rw [g1]; exact b2)]
          rw [show Nat.sub (rx_pl v) 2 + 2 = v / 4 from (fx_pq p2).symm]
          rfl] at hN
        exact hN
      · exact (fx_half (fx_ws_hd (fx_ws_tl hs)) (fun z => by rw [show Nat.beq (rx_tk ix) 0 = true from rx_beq.mpr z] at d; cases d) h).elim
end FXU
