theorem ax_num_kd {pc : Nat} {ins : Instr} {z : Nat × Nat × Nat × List Nat} (h : ax_num pc ins = some z) : rx_kd ins = 0 := by
  cases ins <;> first | rfl | cases h
theorem ax_ctl_call {ins : Instr} {o : Nat} (h : ax_ctl ins = some o) (ho : 29 < o) : (o = 30 ∧ rx_kd ins = 4) ∨ (o = 31 ∧ rx_kd ins = 5) := by
  revert h
  cases ins <;> intro h <;> first | (cases h; omega) | (cases h; exact Or.inl ⟨rfl, rfl⟩) | (cases h; exact Or.inr ⟨rfl, rfl⟩) | cases h
/-- contracts of methods with fewer frames hold, and the tables are right -/
noncomputable def ax_Low (w : ax_W) (X : ax_X) (P : List rx_M) (AP : List ax_M) (P : List rx_M) (K : rx_K) (B : Nat) : Prop := ∀ (j : Nat) (q : rx_M) (m : ax_M), rx_nth P j = some q → rx_nth AP j = some m → ax_tab q m.1 ∧ (rx_rf (rx_n q) < B → ∀ C ∈ m.2, ax_Con w X P K q C)
noncomputable def ax_SGB (w : ax_W) (X : ax_X) (md : List (Nat × Nat)) (P : List rx_M) (P : List rx_M) (K : rx_K) (B : Nat) (g : rx_N → List (List ax_I) → ax_A → Option (List ax_O)) : Prop :=
  ∀ r ∈ P, rx_rf (rx_n r) ≤ B → ∀ cd, ax_tab r cd → ∀ (a : ax_A) (outs : List ax_O), g (rx_n r) cd a = some outs → ∀ (ρ : Nat → Nat) (hp : rx_H) (σ : rx_S), ax_R w X ρ a hp σ → ax_Wp P K r σ (ax_Out w X md ρ a.2.2.2.1 hp outs)
section AXK
variable {w : ax_W} {X : ax_X} {md : List (Nat × Nat)} {ρ : Nat → Nat} {hp : rx_H} {P : List rx_M} {K : rx_K} {AP : List ax_M} {l : Launch} {cy : Nat → ClassId} {D : va_G} {r : rx_M} {B : Nat} {β : Type}
theorem ax_cpy_ok (hX : ax_XD w X) {E : ax_E} {pc : Nat} {lv st lvc stc : List Nat} {a' : ax_A} (hE : ax_EO w X ρ E hp) (hT : ax_HT w hp) (hl : lv.map (ax_ev E.1 ρ) = lvc.map some) (hs : st.map (ax_ev E.1 ρ) = stc.map some) (h : ax_cpy w md pc lv st E = some a') : a'.2.2.2.1 = E.1 ∧ ∃ hp' σ', rx_cpy pc lvc stc hp [] 0 0 = some σ' ∧ ax_R w X ρ a' hp' σ' ∧ ax_HR w md hp hp' := by
  match st, h, hs with
  | [], h, _ => cases h
  | [_], h, _ => cases h
  | [_, _], h, _ => cases h
  | [_, _, _], h, _ => cases h
  | [_, _, _, _], h, _ => cases h
  | n :: dp :: d :: sp :: q :: st', h, hs =>
    unfold ax_cpy at h
    dsimp only at h
    obtain ⟨hc, h0⟩ := rx_cond h
    clear h
    obtain ⟨c1, c2⟩ := rx_and2.mp hc
    have c1 := rx_beq.mp c1
    have c2 := rx_beq.mp c2
    subst c1
    subst c2
    cases e1 : ax_rg w E d with
    | none => rw [e1] at h0; cases h0
    | some g =>
      cases e2 : ax_rg w E q with
      | none => rw [e1, e2] at h0; cases h0
      | some g2 =>
        rw [e1, e2] at h0
        dsimp only at h0
        rw [rx_nth_eq] at h0
        obtain ⟨nv, r1, rfl, hn, hr1⟩ := ax_evs_cons hs
        obtain ⟨dpv, r2, rfl, hdp, hr2⟩ := ax_evs_cons hr1
        obtain ⟨dv, r3, rfl, hd, hr3⟩ := ax_evs_cons hr2
        obtain ⟨spv, r4, rfl, hsp, hr4⟩ := ax_evs_cons hr3
        obtain ⟨qv, r5, rfl, hq, hr5⟩ := ax_evs_cons hr4
        cases (ax_ev_c (n := E.1) (ρ := ρ) (v := 0) (by decide)).symm.trans hdp
        cases (ax_ev_c (n := E.1) (ρ := ρ) (v := 0) (by decide)).symm.trans hsp
        obtain ⟨d1, d2, d3, d4, k, len, sg, fd, p1, p2, p3, p4⟩ := ax_cell hE hT hd e1
        obtain ⟨q1, q2, q3, q4, k', len', sg', fq, s1, s2, s3, s4⟩ := ax_cell hE hT hq e2
        rw [p1] at h0
        dsimp only at h0
        obtain ⟨hb, h9⟩ := rx_cond h0
        have h9 := Option.some.inj h9
        subst h9
        obtain ⟨b1, hb⟩ := rx_and2.mp hb
        obtain ⟨b2, hb⟩ := rx_and2.mp hb
        obtain ⟨b3, hb⟩ := rx_and2.mp hb
        obtain ⟨b4, hb⟩ := rx_and2.mp hb
        obtain ⟨b5, b6⟩ := rx_and2.mp hb
        have b1 := rx_beq.mp b1
        subst b1
        cases p1.symm.trans s1
        have b2 := rx_beq.mp b2
        subst b2
        have b3 : n = rx_int len := rx_beq.mp b3
        subst b3
        have e0 : rx_int len % 4 = 0 := by show 4 * len % 4 = 0; omega
        cases (ax_ev_c (n := E.1) (ρ := ρ) (v := rx_int len) (by omega)).symm.trans hn
        have hlt : dv / 4 - 2 < hp.1 := rx_hg_lt p2
        have hgs : ∀ z, rx_hg (rx_hs hp (dv / 4 - 2) (13, len, fq)) z = if z = dv / 4 - 2 then some (13, len, fq) else rx_hg hp z := fun z => rx_hg_hs hT.1 hlt
        have hHR : ax_HR w [(g, 999)] hp (rx_hs hp (dv / 4 - 2) (13, len, fq)) := by
          refine ⟨rfl, fun z g' hz k' n' l' hl' => ?_⟩
          rw [hgs]
          by_cases ez : z = dv / 4 - 2
          · subst ez
            cases hl'.symm.trans p2
            cases hz.symm.trans d4
            rw [if_pos rfl]
            refine ⟨_, rfl, fun i hi => ?_⟩
            have : ax_mem [(g, 999)] g i = true := List.any_eq_true.mpr ⟨(g, 999), List.mem_cons_self, rx_and2.mpr ⟨Nat.beq_refl g, rx_or2.mpr (Or.inr rfl)⟩⟩
            rw [this] at hi
            cases hi
          · rw [if_neg ez]
            exact ⟨l', hl', fun _ _ => rfl⟩
        refine ⟨rfl, rx_hs hp (dv / 4 - 2) (13, len, fq), (Nat.add pc 3, lvc, r5, rx_hs hp (dv / 4 - 2) (13, len, fq), [], 0, 0), ?_, ⟨rfl, hl, hr5, rfl, ⟨hE.1, hE.2.1, ?_, hE.2.2.2.1, ax_xkill_ok hX hE.2.2.2.2 hHR⟩, ⟨hT.1, ?_⟩⟩, hHR.wk (ax_mem_one b6)⟩
        · unfold rx_cpy
          dsimp only
          rw [show Nat.beq 0 0 = true from rfl, rx_beq.mpr (show rx_tk dv = 2 from d1), rx_ble.mpr (show 2 ≤ rx_pl dv from d2), rx_beq.mpr (show rx_tk qv = 2 from q1), rx_ble.mpr (show 2 ≤ rx_pl qv from q2), show rx_hg hp (Nat.sub (rx_pl qv) 2) = some (13, len, fq) from s2, show rx_hg hp (Nat.sub (rx_pl dv) 2) = some (13, len, fd) from p2]
          dsimp only [Bool.and_true, cond_true]
          rw [show Nat.beq 13 13 = true from rfl, Nat.beq_refl, Nat.beq_refl, b4, rx_ble.mpr (show rx_cat r5 ≤ 8 by rw [← ax_cat_ok hE hr5]; exact rx_ble.mp b5)]
          rfl
        · intro y hy
          obtain ⟨hy1, hy2⟩ := List.mem_filter.mp hy
          obtain ⟨a, i, v, k, mm, ll, g1, g2, g3, g4, g5, g6, g7, g8⟩ := hE.2.2.1 y hy1
          cases eg : ax_rg w E y.1 with
          | none => rw [eg] at hy2; cases hy2
          | some gy =>
            rw [eg] at hy2
            dsimp only at hy2
            obtain ⟨-, -, -, hw⟩ := ax_rg_ok hE eg g1
            have hne : a / 4 - 2 ≠ dv / 4 - 2 := fun z => by
              rw [z] at hw
              cases hw.symm.trans d4
              have : ([(g, 999)] : List (Nat × Nat)).any (fun y' => Nat.beq y'.1 g && (Nat.beq y'.2 999 || (!(ax_cst y.2.1) || Nat.beq y'.2 (rx_pl y.2.1)))) = true := List.any_eq_true.mpr ⟨(g, 999), List.mem_cons_self, rx_and2.mpr ⟨Nat.beq_refl g, rfl⟩⟩
              rw [this] at hy2
              cases hy2
            exact ⟨a, i, v, k, mm, ll, g1, g2, g3, g4, g5, g6, by rw [hgs, if_neg hne]; exact g7, g8⟩
        · intro z g' hz
          obtain ⟨k', n', l', f', t1, t2, t3, t4⟩ := hT.2 z g' hz
          by_cases ez : z = dv / 4 - 2
          · subst ez
            cases hz.symm.trans d4
            cases t1.symm.trans p1
            exact ⟨13, len, sg, fq, p1, by rw [hgs, if_pos rfl], s3, s4⟩
          · exact ⟨k', n', l', f', t1, by rw [hgs, if_neg ez]; exact t2, t3, t4⟩
theorem ax_primS_ok {E E2 : ax_E} {k : Nat} {st st2 stc : List Nat} (hE : ax_EO w X ρ E hp) (hs : st.map (ax_ev E.1 ρ) = stc.map some) (h : ax_primS k st E = some (st2, E2)) : E.1 ≤ E2.1 ∧ ∃ (ρ' : Nat → Nat) (stc2 : List Nat), rx_primS k stc = some stc2 ∧ (∀ j, j < E.1 → ρ' j = ρ j) ∧ ax_EO w X ρ' E2 hp ∧ st2.map (ax_ev E2.1 ρ') = stc2.map some := by
  have cst : ∀ (v x : Nat) (l : List Nat), rx_wrd v = some l → ax_ev E.1 ρ v = some x → x = v := by
    intro v x l hv hx
    obtain ⟨j, hj, hvj, -⟩ := rx_wrd_ok hv
    rw [ax_ev_c (by omega)] at hx
    exact (Option.some.inj hx).symm
  match st, h, hs with
  | [], h, _ => cases h
  | v :: st', h, hs =>
    unfold ax_primS at h
    dsimp only at h
    obtain ⟨vv, r1, rfl, hv, hr1⟩ := ax_evs_cons hs
    rcases ax_condY h with ⟨k3, h⟩ | ⟨k3, h⟩
    · cases hwd : rx_wrd v with
      | none => rw [hwd] at h; cases h
      | some l' =>
        rw [hwd] at h
        cases h
        have e := cst v vv l' hwd hv
        subst e
        refine ⟨Nat.le_refl _, ρ, rx_int (rx_len l') :: r1, ?_, fun _ _ => rfl, hE, ax_evs_push (ax_ev_c (by show 4 * rx_len l' % 4 ≠ 3; omega)) hr1⟩
        show (bif Nat.beq k 3 then rx_primL vv r1 else _) = _
        rw [k3, cond_true]
        unfold rx_primL
        rw [hwd]
    · rcases ax_condY h with ⟨k4, h⟩ | ⟨-, h⟩
      · match st', h, hr1 with
        | [], h, _ => cases h
        | a :: st3, h, hr1 =>
          dsimp only at h
          obtain ⟨av, r2, rfl, ha, hr2⟩ := ax_evs_cons hr1
          cases hwd : rx_wrd a with
          | none => rw [hwd] at h; cases h
          | some l' =>
            cases hiv : ax_iv E v with
            | none => rw [hwd, hiv] at h; cases h
            | some ii =>
              rw [hwd, hiv] at h
              dsimp only at h
              obtain ⟨hc, h⟩ := rx_cond h
              cases h
              obtain ⟨hin, hall⟩ := rx_and2.mp hc
              obtain ⟨hin1, hin2⟩ := rx_and2.mp hin
              have e := cst a av l' hwd ha
              subst e
              obtain ⟨v0, v1, v2, v3⟩ := ax_iv_ok hE hiv hv
              have hin1 : 2147483648 ≤ ii.1 := rx_ble.mp hin1
              have hin2 : ii.2 < rx_len l' + 2147483648 := rx_blt.mp hin2
              have hlt : vv / 4 < l'.length := by
                rw [← rx_len_eq]
                have hb : rx_bi (vv / 4) = (vv / 4 + 2147483648) % 4294967296 := rfl
                omega
              have hch : rx_nth l' (rx_pl vv) = some l'[vv / 4] := by
                rw [rx_nth_eq]
                exact List.getElem?_eq_getElem hlt
              have hc256 : l'[vv / 4] < 256 := rx_blt.mp (List.all_eq_true.mp hall _ (List.getElem_mem hlt))
              have hn : rx_int l'[vv / 4] % 4 = 0 ∧ rx_int l'[vv / 4] / 4 = l'[vv / 4] := by
                have : rx_int l'[vv / 4] = 4 * l'[vv / 4] := rfl
                omega
              obtain ⟨q1, ρ', q2, q3, q4⟩ := ax_val_ok hE (t := (0, 2147483648, 2147483903)) (x := rx_int l'[vv / 4]) (Or.inl ⟨rfl, hn.1, by rw [hn.2]; omega, by rw [hn.2]; show 2147483648 ≤ (l'[vv / 4] + 2147483648) % 4294967296; omega, by rw [hn.2]; show (l'[vv / 4] + 2147483648) % 4294967296 ≤ 2147483903; omega⟩)
              have hC : ∀ r, rx_primC vv (av :: r) = some (rx_int l'[vv / 4] :: r) := by
                intro r
                unfold rx_primC
                dsimp only
                rw [hwd]
                dsimp only
                rw [rx_beq.mpr (show rx_tk vv = 0 from v0), cond_true, hch]
              have hno : ax_NO X (ax_val E (0, 2147483648, 2147483903)).2.1 ρ' hp (1042, [av, v, (ax_val E (0, 2147483648, 2147483903)).1, 0, 0]) := by
                refine ⟨[av, vv, rx_int l'[vv / 4], 0, 0], ax_evs_push (ax_ev_mono q1 q2 ha) (ax_evs_push (ax_ev_mono q1 q2 hv) (ax_evs_push q4 (ax_evs_push (ax_ev_c (by decide)) (ax_evs_push (ax_ev_c (by decide)) rfl)))), ?_⟩
                exact (ax_XF_bi (o := 42) (by decide)).mpr (Or.inr (Or.inl ⟨rfl, hC []⟩))
              refine ⟨q1, ρ', rx_int l'[vv / 4] :: r2, ?_, q2, ax_addX_ok q3 hno, ax_evs_push q4 (ax_evs_mono q1 q2 hr2)⟩
              show (bif Nat.beq k 3 then rx_primL vv (av :: r2) else bif Nat.beq k 4 then rx_primC vv (av :: r2) else none) = _
              rw [k3, k4, cond_false, cond_true]
              exact hC r2
      · cases h
theorem ax_prim_ok {E E2 : ax_E} {k : Nat} {st st2 stc : List Nat} (hE : ax_EO w X ρ E hp) (hs : st.map (ax_ev E.1 ρ) = stc.map some) (h : ax_prim k st E = some (st2, E2)) : E.1 ≤ E2.1 ∧ ∃ (ρ' : Nat → Nat) (stc2 : List Nat), rx_prim k stc = some stc2 ∧ (∀ j, j < E.1 → ρ' j = ρ j) ∧ ax_EO w X ρ' E2 hp ∧ st2.map (ax_ev E2.1 ρ') = stc2.map some := by
  match st, h, hs with
  | [], h, _ => cases h
  | [_], h, _ => cases h
  | y :: x :: st', h, hs =>
    unfold ax_prim at h
    dsimp only at h
    cases ex : ax_iv E x with
    | none => rw [ex] at h; cases h
    | some ix =>
      cases ey : ax_iv E y with
      | none => rw [ex, ey] at h; cases h
      | some iy =>
        rw [ex, ey] at h
        dsimp only at h
        obtain ⟨yv, r1, rfl, hy, hr1⟩ := ax_evs_cons hs
        obtain ⟨xv, r2, rfl, hx, hr2⟩ := ax_evs_cons hr1
        obtain ⟨x0, x1, x2, x3⟩ := ax_iv_ok hE ex hx
        obtain ⟨y0, y1, y2, y3⟩ := ax_iv_ok hE ey hy
        have fin : ∀ (v lo hi : Nat), v % 4 = 0 → v / 4 < 4294967296 → lo ≤ rx_bi (v / 4) → rx_bi (v / 4) ≤ hi → some ((ax_val E (0, lo, hi)).1 :: st', ax_addX (ax_val E (0, lo, hi)).2 (Nat.add 1039 k, [x, y, (ax_val E (0, lo, hi)).1, 0, 0])) = some (st2, E2) → (k = 1 ∨ k = 2) → (∀ r, rx_prim k (yv :: xv :: r) = some (v :: r)) → E.1 ≤ E2.1 ∧ ∃ (ρ' : Nat → Nat) (stc2 : List Nat), rx_prim k (yv :: xv :: r2) = some stc2 ∧ (∀ j, j < E.1 → ρ' j = ρ j) ∧ ax_EO w X ρ' E2 hp ∧ st2.map (ax_ev E2.1 ρ') = stc2.map some := by
          intro v lo hi v0 v1 v2 v3 he hk12 hp'
          obtain ⟨n1, ρ', a1, a2, a3⟩ := ax_val_ok (t := (0, lo, hi)) hE (Or.inl ⟨rfl, v0, v1, v2, v3⟩)
          have he := Option.some.inj he
          have e1 : (ax_val E (0, lo, hi)).1 :: st' = st2 := congrArg Prod.fst he
          have e2 : ax_addX (ax_val E (0, lo, hi)).2 (Nat.add 1039 k, [x, y, (ax_val E (0, lo, hi)).1, 0, 0]) = E2 := congrArg Prod.snd he
          have hno : ax_NO X (ax_val E (0, lo, hi)).2.1 ρ' hp (Nat.add 1039 k, [x, y, (ax_val E (0, lo, hi)).1, 0, 0]) := by
            refine ⟨[xv, yv, v, 0, 0], ax_evs_push (ax_ev_mono n1 a1 hx) (ax_evs_push (ax_ev_mono n1 a1 hy) (ax_evs_push a3 (ax_evs_push (ax_ev_c (by decide)) (ax_evs_push (ax_ev_c (by decide)) rfl)))), ?_⟩
            show ax_XF X (1039 + k) [xv, yv, v, 0, 0] hp
            rw [show 1039 + k = 1000 + (39 + k) by omega]
            refine (ax_XF_bi (by omega)).mpr (Or.inl ⟨by omega, ?_⟩)
            rw [show 39 + k - 39 = k by omega]
            exact hp' []
          have a2' := ax_addX_ok a2 hno
          rw [e2] at a2'
          have e3 : (ax_val E (0, lo, hi)).2.1 = E2.1 := by rw [← e2]; rfl
          rw [e3] at n1 a3
          refine ⟨n1, ρ', v :: r2, hp' r2, a1, a2', ?_⟩
          rw [← e1]
          exact ax_evs_push a3 (ax_evs_mono n1 a1 hr2)
        have hprim : ∀ r, rx_prim k (yv :: xv :: r) = (bif Nat.beq k 1 then some ((bif Nat.blt (rx_bi (rx_pl xv)) (rx_bi (rx_pl yv)) then yv else xv) :: r) else bif Nat.beq k 2 then some ((bif Nat.blt (rx_bi (rx_pl yv)) (rx_bi (rx_pl xv)) then yv else xv) :: r) else none) := by
          intro r
          show (bif Nat.beq (rx_tk xv) 0 && Nat.beq (rx_tk yv) 0 then _ else none) = _
          rw [rx_beq.mpr (show rx_tk xv = 0 from x0), rx_beq.mpr (show rx_tk yv = 0 from y0)]
          rfl
        cases k1 : Nat.beq k 1 with
        | true =>
          have hk1 : k = 1 := rx_beq.mp k1
          rw [k1] at h
          simp only [k1, cond_true] at hprim
          dsimp only [cond_true] at h
          have mx := ax_max_l ix.1 iy.1
          by_cases hlt : rx_bi (xv / 4) < rx_bi (yv / 4)
          · simp only [show Nat.blt (rx_bi (rx_pl xv)) (rx_bi (rx_pl yv)) = true from rx_blt.mpr hlt, cond_true] at hprim
            exact fin yv _ _ y0 y1 (ax_max_le (by omega) y2) (Nat.le_trans y3 (ax_max_l _ _).2) h (Or.inl hk1) hprim
          · simp only [show Nat.blt (rx_bi (rx_pl xv)) (rx_bi (rx_pl yv)) = false from Bool.eq_false_iff.mpr (fun z => hlt (rx_blt.mp z)), cond_false] at hprim
            exact fin xv _ _ x0 x1 (ax_max_le x2 (by omega)) (Nat.le_trans x3 (ax_max_l _ _).1) h (Or.inl hk1) hprim
        | false =>
          rw [k1, cond_false] at h
          simp only [k1, cond_false] at hprim
          cases k2 : Nat.beq k 2 with
          | false => rw [k2] at h; cases h
          | true =>
            have hk2 : k = 2 := rx_beq.mp k2
            rw [k2] at h
            simp only [k2, cond_true] at hprim
            dsimp only [cond_true] at h
            by_cases hlt : rx_bi (yv / 4) < rx_bi (xv / 4)
            · simp only [show Nat.blt (rx_bi (rx_pl yv)) (rx_bi (rx_pl xv)) = true from rx_blt.mpr hlt, cond_true] at hprim
              exact fin yv _ _ y0 y1 (Nat.le_trans (ax_min_l _ _).2 y2) (ax_le_min (by omega) y3) h (Or.inr hk2) hprim
            · simp only [show Nat.blt (rx_bi (rx_pl yv)) (rx_bi (rx_pl xv)) = false from Bool.eq_false_iff.mpr (fun z => hlt (rx_blt.mp z)), cond_false] at hprim
              exact fin xv _ _ x0 x1 (Nat.le_trans (ax_min_l _ _).1 x2) (ax_le_min x3 (by omega)) h (Or.inr hk2) hprim
/-- ONE INSTRUCTION of the abstract interpreter, whatever comes then -/
theorem ax_go_ok (hP : ∀ q ∈ P, rx_QW q ∧ rx_ST P K q) (hX : ax_XD w X) (hA : ax_Low w X P AP P K B) (hr : r ∈ P) (hB : rx_rf (rx_n r) ≤ B) {cd : List (List ax_I)} (htab : ax_tab r cd) {g : rx_N → List (List ax_I) → ax_A → Option (List ax_O)} (hg : ax_SGB w X md P P K B g) {f : ax_A → Option (List β)} {z : ax_O → Option (List β)} {a : ax_A} {outs : List β} (h : ax_go w P K AP md g f z (rx_n r) cd a = some outs) {σ : rx_S} (hR : ax_R w X ρ a hp σ) {Po : rx_O → Prop}
    (hf : ∀ (a' : ax_A) (o' : List β), f a' = some o' → (∀ y ∈ o', y ∈ outs) → ∀ (ρ' : Nat → Nat) (hp' : rx_H) (σ' : rx_S), (∀ k, k < a.2.2.2.1 → ρ' k = ρ k) → a.2.2.2.1 ≤ a'.2.2.2.1 → ax_R w X ρ' a' hp' σ' → ax_HR w md hp hp' → ax_Wp P K r σ' Po)
    (hz : ∀ (oa : ax_O) (o' : List β), z oa = some o' → (∀ y ∈ o', y ∈ outs) → ∀ o, ax_O1 w X md ρ a.2.2.2.1 hp oa o → Po o) : ax_Wp P K r σ Po := by
  obtain ⟨pc, lv, st, E⟩ := a
  obtain ⟨spc, lvc, stc, rest0⟩ := σ
  obtain ⟨R1, R2, R3, R4, R5, R6⟩ := hR
  dsimp only at R1 R2 R3 R4 R5 hf hz
  subst R4
  subst R1
  unfold ax_go at h
  dsimp only at h
  cases hl : ax_lookI cd spc with
  | none => rw [hl] at h; cases h
  | some x =>
    rw [hl] at h
    dsimp only at h
    obtain ⟨⟨ch, hc1, hc2⟩, hpc⟩ := ax_lookI_ok hl
    obtain ⟨y, y1, y2, y3, y4⟩ := htab ch hc1 x hc2
    rw [hpc] at y1
    rcases ax_condY h with ⟨ho, h⟩ | ⟨ho, h⟩
    · have ho : x.2.1 ≤ 25 := rx_ble.mp ho
      rcases y4 with ⟨-, hn, htg⟩ | ⟨hlt, -⟩
      · rw [hpc] at hn
        cases hst : ax_step w K md (rx_mL (rx_n r)) spc x.2.1 x.2.2.1 x.2.2.2.1 x.2.2.2.2.1 x.2.2.2.2.2.1 x.2.2.2.2.2.2 lv st E with
        | none => rw [hst] at h; cases h
        | some out =>
          rw [hst] at h
          dsimp only at h
          obtain ⟨σ', s1, a', ha', ρ', hp', s2, s3, s4, s5⟩ := ax_step_ok (N := rx_n r) hX hn htg R5 R6 R2 R3 hst
          obtain ⟨o', o1, o2⟩ := rx_all_ok h a' ha'
          refine ax_wp_step hP hr y1 (ax_num_kd hn) ?_ (hf a' o' o1 o2 ρ' hp' σ' s2 s3 s4 s5)
          rw [y2, y3]
          exact s1
      · omega
    · have ho : 25 < x.2.1 := Nat.not_le.mp (fun q => by rw [rx_ble.mpr q] at ho; cases ho)
      rcases y4 with ⟨hle, -⟩ | ⟨-, hctl⟩
      · omega
      rcases ax_condY h with ⟨ho2, h⟩ | ⟨ho2, h⟩
      · have ho2 : x.2.1 ≤ 29 := rx_ble.mp ho2
        cases hret : ax_ret x.2.1 (rx_rk (rx_n r)) st E with
        | none => rw [hret] at h; cases h
        | some oa =>
          rw [hret] at h
          exact ax_ret_ok hP hr y1 hctl R5 R6 R3 hret ho2 (fun o' ho' => hz oa outs h (fun _ hy => hy) o' ho')
      · have ho2 : 29 < x.2.1 := Nat.not_le.mp (fun q => by rw [rx_ble.mpr q] at ho2; cases ho2)
        have hkd := ax_ctl_call hctl ho2
        unfold ax_cl at h
        rcases ax_condY h with ⟨-, h⟩ | ⟨n1, h⟩
        · cases h
        have n1 : Nat.beq x.2.2.2.2.2.1 1 = false := n1
        rcases ax_condY h with ⟨n2, h⟩ | ⟨n2, h⟩
        · obtain ⟨hb, h⟩ := rx_cond h
          obtain ⟨b1, b2⟩ := rx_and2.mp hb
          have b1 := rx_beq.mp b1
          cases hcp : ax_cpy w md spc lv st E with
          | none => rw [hcp] at h; cases h
          | some a' =>
            rw [hcp] at h
            dsimp only at h
            obtain ⟨en, hp', σ', c1, c2, c3⟩ := ax_cpy_ok hX R5 R6 R2 R3 hcp
            refine ax_wp_cpy hP hr y1 ?_ ?_ c1 b2 (hf a' outs h (fun _ hy => hy) ρ hp' σ' (fun _ _ => rfl) (Nat.le_of_eq en.symm) c2 c3)
            · rcases hkd with ⟨k1, -⟩ | ⟨-, k2⟩
              · omega
              · exact k2
            · rw [y3]
              exact rx_beq.mp n2
        rcases ax_condY h with ⟨n3, h⟩ | ⟨n3, h⟩
        · rcases ax_condY h with ⟨hb, h⟩ | ⟨-, h⟩
          · obtain ⟨b1, b2⟩ := rx_and2.mp hb
            have b1 := rx_beq.mp b1
            cases hpr : ax_prim (Nat.div x.2.2.2.2.2.1 4) st E with
            | none => rw [hpr] at h; cases h
            | some z2 =>
              obtain ⟨st2, E2⟩ := z2
              rw [hpr] at h
              dsimp only at h
              obtain ⟨h9, h⟩ := rx_cond h
              obtain ⟨en, ρ', stc2, c1, c2, c3, c4⟩ := ax_prim_ok R5 R3 hpr
              refine ax_wp_prim hP hr y1 ?_ y3 (fun z => by rw [z] at n1; cases n1) (fun z => by rw [z] at n2; cases n2) (rx_beq.mp n3) c1 b2 (by rw [← ax_cat_ok c3 c4]; exact rx_ble.mp h9) (hf _ outs h (fun _ hy => hy) ρ' hp _ c2 en ⟨rfl, ax_evs_mono en c2 R2, c4, rfl, c3, R6⟩ ax_HR.rf)
              rcases hkd with ⟨k1, -⟩ | ⟨-, k2⟩
              · omega
              · exact k2
          · obtain ⟨hb, h⟩ := rx_cond h
            obtain ⟨b1, b2⟩ := rx_and2.mp hb
            have b1 := rx_beq.mp b1
            cases hpr : ax_primS (Nat.div x.2.2.2.2.2.1 4) st E with
            | none => rw [hpr] at h; cases h
            | some z2 =>
              obtain ⟨st2, E2⟩ := z2
              rw [hpr] at h
              dsimp only at h
              obtain ⟨h9, h⟩ := rx_cond h
              obtain ⟨en, ρ', stc2, c1, c2, c3, c4⟩ := ax_primS_ok R5 R3 hpr
              refine ax_wp_primS hP hr y1 ?_ y3 (fun z => by rw [z] at n1; cases n1) (fun z => by rw [z] at n2; cases n2) (rx_beq.mp n3) c1 b2 (by rw [← ax_cat_ok c3 c4]; exact rx_ble.mp h9) (hf _ outs h (fun _ hy => hy) ρ' hp _ c2 en ⟨rfl, ax_evs_mono en c2 R2, c4, rfl, c3, R6⟩ ax_HR.rf)
              rcases hkd with ⟨-, k1⟩ | ⟨k2, -⟩
              · exact k1
              · omega
        · cases hq : rx_nth P x.2.2.2.2.1 with
          | none => rw [hq] at h; cases h
          | some q =>
            rw [hq] at h
            dsimp only at h
            cases hsp : rx_spl (bif Nat.beq x.2.1 31 then rx_np (rx_n q) else Nat.succ (rx_np (rx_n q))) st [] with
            | none => rw [hsp] at h; cases h
            | some ar =>
              obtain ⟨as, rest⟩ := ar
              rw [hsp] at h
              dsimp only at h
              obtain ⟨hb, h⟩ := rx_cond h
              obtain ⟨b1, b2⟩ := rx_and2.mp hb
              unfold ax_cok at b2
              obtain ⟨k1, b2⟩ := rx_and2.mp b2
              obtain ⟨k2, b2⟩ := rx_and2.mp b2
              obtain ⟨k3, b2⟩ := rx_and2.mp b2
              obtain ⟨k4, b2⟩ := rx_and2.mp b2
              obtain ⟨k5, b2⟩ := rx_and2.mp b2
              obtain ⟨k6, b2⟩ := rx_and2.mp b2
              obtain ⟨k7, k8⟩ := rx_and2.mp b2
              have k2' : rx_rf (rx_n q) + 1 ≤ rx_rf (rx_n r) := rx_ble.mp k2
              obtain ⟨asc, restc, g1, g2, g3⟩ := ax_spl_ok (accc := []) R3 rfl hsp
              have hqP : q ∈ P := by rw [rx_nth_eq] at hq; exact List.mem_of_getElem? hq
              have o5 : Nat.beq y.2.1 5 = Nat.beq x.2.1 31 ∧ (Nat.beq y.2.1 4 || Nat.beq y.2.1 5) = true := by
                obtain ⟨⟨ch', hc1', hc2'⟩, -⟩ := rx_look_ok y1
                obtain ⟨-, o2, -⟩ := (hP r hr).2 ch' hc1' y hc2'
                rcases hkd with ⟨p1, p2⟩ | ⟨p1, p2⟩
                · rw [o2, p2, p1]; exact ⟨rfl, rfl⟩
                · rw [o2, p2, p1]; exact ⟨rfl, rfl⟩
              have hrc : (Nat.beq x.2.1 31 || rx_rcv hp (Nat.div x.2.2.2.2.2.1 4) asc) = true := by
                rcases rx_or2.mp b1 with b1 | b1
                · exact rx_or2.mpr (Or.inl b1)
                · refine rx_or2.mpr (Or.inr ?_)
                  match as, b1, g2 with
                  | [], b1, _ => cases b1
                  | v :: as', b1, g2 =>
                    obtain ⟨vv, r', rfl, hv, -⟩ := ax_evs_cons g2
                    unfold ax_rcv at b1
                    dsimp only at b1
                    cases eg : ax_rg w E v with
                    | none => rw [eg] at b1; cases b1
                    | some gg =>
                      rw [eg] at b1
                      dsimp only at b1
                      obtain ⟨h1, h2, h3, h4, k, n, ll, ff, p1, p2, p3, p4⟩ := ax_cell R5 R6 hv eg
                      rw [rx_nth_eq, p1] at b1
                      show rx_obj hp (Nat.div x.2.2.2.2.2.1 4) vv = true
                      unfold rx_obj
                      rw [show rx_hg hp (Nat.sub (rx_pl vv) 2) = some (k, n, ff) from p2]
                      exact rx_and2.mpr ⟨rx_beq.mpr h1, rx_and2.mpr ⟨rx_ble.mpr h2, b1⟩⟩
              have hcal : rx_cal P r x.2.2.2.2.1 (spc, lvc, stc, hp, [], 0, 0) = some (asc, restc) := by
                unfold rx_cal
                dsimp only
                rw [y1]
                dsimp only
                rw [hq]
                dsimp only
                rw [o5.1, g1]
                dsimp only
                rw [show (Nat.beq y.2.1 4 || Nat.beq x.2.1 31) = true by rw [← o5.1]; exact o5.2, y2, y3, Nat.beq_refl, n1, show Nat.beq x.2.2.2.2.2.1 2 = false from n2, show Nat.beq (Nat.mod x.2.2.2.2.2.1 4) 1 = false from n3, hrc]
                have hcok : rx_cok (rx_n r) (rx_n q) asc restc 0 0 = true := by
                  unfold rx_cok
                  rw [← ax_cat_ok R5 g3, ← ax_cat_ok R5 g2]
                  refine rx_and2.mpr ⟨k1, rx_and2.mpr ⟨k2, rx_and2.mpr ⟨k3, rx_and2.mpr ⟨?_, rx_and2.mpr ⟨?_, k6⟩⟩⟩⟩⟩
                  · rw [show Nat.add 0 (rx_rc (rx_n q)) = rx_rc (rx_n q) from Nat.zero_add _]; exact k4
                  · rw [show Nat.add 0 (rx_rs (rx_n q)) = rx_rs (rx_n q) from Nat.zero_add _]; exact k5
                rw [hcok]
                rfl
              unfold ax_inv at h
              cases hap : rx_nth AP x.2.2.2.2.1 with
              | none => rw [hap] at h; cases h
              | some m =>
                obtain ⟨cdq, cs⟩ := m
                rw [hap] at h
                dsimp only at h
                obtain ⟨tq, cq⟩ := hA _ q _ hq hap
                have main : ∀ os, (bif ax_nil cs then g (rx_n q) cdq (0, ax_args E as (rx_mL (rx_n q)), [], E) else ax_try w E md as cs) = some os → ax_Wp P K q (rx_ent q asc (spc, lvc, stc, hp, [], 0, 0)) (ax_Out w X md ρ E.1 hp os) := by
                  intro os hos
                  rcases ax_condY hos with ⟨-, hos⟩ | ⟨-, hos⟩
                  · exact hg q hqP (by omega) cdq tq _ os hos ρ hp _ ⟨rfl, ax_args_ok R5 g2, rfl, rfl, R5, R6⟩
                  · exact ax_try_ok hX R5 R6 g2 (cq (by omega)) hos
                generalize hos : (bif ax_nil cs then g (rx_n q) cdq (0, ax_args E as (rx_mL (rx_n q)), [], E) else ax_try w E md as cs) = oss at h main
                cases oss with
                | none => cases h
                | some os =>
                  replace h : rx_all (ax_aft f (rx_rk (rx_n q)) spc lv rest) os = some outs := h
                  refine ax_wp_call hP hr hq hcal (main os rfl) ?_
                  rintro o ⟨oa, hoa, ρ', q1, q2, q3, q4, q5, q6, q7⟩
                  obtain ⟨o', o1, o2⟩ := rx_all_ok h oa hoa
                  have kk7 : rx_rc (rx_n q) = 0 := rx_beq.mp k7
                  have kk8 : rx_rs (rx_n q) = 0 := rx_beq.mp k8
                  have e : rx_bh q restc (spc, lvc, stc, hp, [], 0, 0) o = (Nat.add spc 3, lvc, (bif Nat.beq (rx_rk (rx_n q)) 0 then restc else o.1 :: restc), o.2.1, [], 0, 0) := by
                    unfold rx_bh
                    dsimp only
                    rw [kk7, kk8, q7]
                  rw [e]
                  refine hf (Nat.add spc 3, lv, (bif Nat.beq (rx_rk (rx_n q)) 0 then rest else oa.1 :: rest), oa.2) o' o1 o2 ρ' o.2.1 _ q1 q2 ⟨rfl, ax_evs_mono q2 q1 R2, ?_, rfl, q4, q5⟩ q6
                  cases Nat.beq (rx_rk (rx_n q)) 0 with
                  | true => exact ax_evs_mono q2 q1 g3
                  | false => exact ax_evs_push q3 (ax_evs_mono q2 q1 g3)
/-- A METHOD RUN INLINE -/
theorem ax_rn_ok (hP : ∀ q ∈ P, rx_QW q ∧ rx_ST P K q) (hX : ax_XD w X) (hA : ax_Low w X P AP P K B) : ∀ n, ax_SGB w X md P P K B (ax_rn w P K AP md n) := by
  intro n
  induction n with
  | zero => intro r _ _ cd _ a outs h; cases h
  | succ n ih =>
    intro r hr hB cd ht a outs h ρ hp σ hR
    replace h : ax_go w P K AP md (ax_rn w P K AP md n) (ax_rn w P K AP md n (rx_n r) cd) (fun o => some [o]) (rx_n r) cd a = some outs := h
    refine ax_go_ok hP hX hA hr hB ht ih h hR ?_ ?_
    · intro a' o' h1 hsub ρ' hp' σ' q1 q2 q3 q4
      refine ax_wp_mono (ih r hr hB cd ht a' o' h1 ρ' hp' σ' q3) ?_
      rintro o ⟨oa, hoa, ρ2, s1, s2, s3, s4, s5, s6, s7⟩
      exact ⟨oa, hsub _ hoa, ρ2, fun k hk => (s1 k (Nat.lt_of_lt_of_le hk q2)).trans (q1 k hk), Nat.le_trans q2 s2, s3, s4, s5, q4.tr s6, s7⟩
    · intro oa o' h1 hsub o ho
      cases h1
      exact ⟨oa, hsub _ List.mem_cons_self, ho⟩
end AXK
