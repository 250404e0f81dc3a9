section AXV
variable {w : ax_W} {X : ax_X} {md : List (Nat × Nat)} {ρ : Nat → Nat} {E : ax_E} {hp : rx_H} {K : rx_K} {N : rx_N} {pc na nb : Nat} {lv st lvc stc : List Nat} {out : List ax_A}
theorem ax_inr_ok {i : Nat × Nat} {n x : Nat} (h : ax_inr i n = true) (hx : x < 4294967296) (h1 : i.1 ≤ rx_bi x) (h2 : rx_bi x ≤ i.2) : x < n ∧ i.1 - 2147483648 ≤ x ∧ x ≤ i.2 - 2147483648 := by
  obtain ⟨c1, c2⟩ := rx_and2.mp h
  have c1 : 2147483648 ≤ i.1 := rx_ble.mp c1
  have c2 : i.2 < n + 2147483648 := rx_blt.mp c2
  rw [ax_bi_def] at h1 h2
  omega
theorem ax_t_ald {o : Nat} {ok : Nat → Bool} (hok : ∀ k, ax_kok o k = true → ok k = true) (hE : ax_EO w X ρ E hp) (hT : ax_HT w hp) (hl : lv.map (ax_ev E.1 ρ) = lvc.map some) (hs : st.map (ax_ev E.1 ρ) = stc.map some)
    (h : ax_h_ald w o pc lv st E = some out) : ∃ σ, rx_h_ald ok K N pc na nb lvc stc hp [] 0 0 = some [σ] ∧ ax_Res w X md ρ E.1 hp out σ := by
  match st, h, hs with
  | [], h, _ => cases h
  | [_], h, _ => cases h
  | i :: a :: st', h, hs =>
    unfold ax_h_ald at h
    dsimp only at h
    cases eg : ax_rg w E a with
    | none => rw [eg] at h; cases h
    | some g =>
      cases ei : ax_iv E i with
      | none => rw [eg, ei] at h; cases h
      | some q =>
        rw [eg, ei] at h
        dsimp only at h
        rw [rx_nth_eq] at h
        obtain ⟨iv, r1, rfl, hi, hr1⟩ := ax_evs_cons hs
        obtain ⟨av, r, rfl, ha, hr⟩ := ax_evs_cons hr1
        obtain ⟨h1, h2, h3, h4, k, n, l, f, p1, p2, p3, p4⟩ := ax_cell hE hT ha eg
        obtain ⟨i0, i1, i2, i3⟩ := ax_iv_ok hE ei hi
        rw [p1] at h
        dsimp only at h
        obtain ⟨hc, h⟩ := rx_cond h
        obtain ⟨c1, hc⟩ := rx_and2.mp hc
        obtain ⟨c2, c3⟩ := rx_and2.mp hc
        obtain ⟨j1, j2, j3⟩ := ax_inr_ok c2 i1 i2 i3
        cases er : ax_rd w E a i (ax_hull l (Nat.sub q.1 2147483648) (Nat.sub q.2 2147483648)) with
        | none => rw [er] at h; cases h
        | some z =>
          obtain ⟨c, E'⟩ := z
          rw [er] at h
          cases h
          have hlt : iv / 4 < f.length := by rw [p3]; exact j1
          have hfv : f[iv / 4]? = some f[iv / 4] := List.getElem?_eq_getElem hlt
          obtain ⟨n1, ρ', a1, a2, a3⟩ := ax_rd_ok hE ha hi h1 h2 i0 p2 hfv (fun y hy => by obtain ⟨t, t1, t2⟩ := p4 _ _ hfv; exact ax_hull_ok hy j2 j3 t1 t2) er
          refine ⟨(Nat.add pc 1, lvc, f[iv / 4] :: r, hp, [], 0, 0), ?_, ax_new1 hT n1 a1 a2 (ax_evs_mono n1 a1 hl) (ax_evs_push a3 (ax_evs_mono n1 a1 hr)) List.mem_cons_self⟩
          have h6 : Nat.beq av 6 = false := Bool.eq_false_iff.mpr (fun z => by have := rx_beq.mp z; omega)
          show (bif Nat.beq av 6 then _ else bif Nat.beq (rx_tk av) 2 && Nat.ble 2 (rx_pl av) then (match rx_hg hp (Nat.sub (rx_pl av) 2) with
            | some (t, n, l) => bif Nat.beq (rx_tk (rx_kn [] iv)) 0 then (bif ok t && (Nat.blt (rx_pl (rx_kn [] iv)) n && Nat.blt n 100000) then (match rx_nth l (rx_pl (rx_kn [] iv)) with
                | some x => some [(Nat.add pc 1, lvc, x :: r, hp, [], 0, 0)]
                | none => none) else none)
              else _
            | none => none) else none) = _
          rw [h6, cond_false, ax_tag2 h1 h2, cond_true, show rx_hg hp (Nat.sub (rx_pl av) 2) = some (k, n, f) from p2]
          dsimp only
          rw [ax_kn, rx_beq.mpr (show rx_tk iv = 0 from i0), hok k c1, rx_blt.mpr (show rx_pl iv < n from j1), c3, rx_nth_eq, show f[rx_pl iv]? = some f[iv / 4] from hfv]
          rfl
theorem ax_t_ast {o : Nat} {ok : Nat → Nat → Bool} (hok : ∀ k t v vv, ax_aok w o k t E v = true → ax_typ E v = some t → ax_ev E.1 ρ v = some vv → ok k vv = true) (hX : ax_XD w X) (hE : ax_EO w X ρ E hp) (hT : ax_HT w hp) (hl : lv.map (ax_ev E.1 ρ) = lvc.map some) (hs : st.map (ax_ev E.1 ρ) = stc.map some)
    (h : ax_h_ast w md o pc lv st E = some out) : ∃ σ, rx_ast ok pc lvc stc hp [] 0 0 = some [σ] ∧ ax_Res w X md ρ E.1 hp out σ := by
  match st, h, hs with
  | [], h, _ => cases h
  | [_], h, _ => cases h
  | [_, _], h, _ => cases h
  | v :: i :: a :: st', h, hs =>
    unfold ax_h_ast at h
    dsimp only at h
    cases eg : ax_rg w E a with
    | none => rw [eg] at h; cases h
    | some g =>
      cases ei : ax_iv E i with
      | none => rw [eg, ei] at h; cases h
      | some q =>
        cases et : ax_typ E v with
        | none => rw [eg, ei, et] at h; cases h
        | some t =>
          rw [eg, ei, et] at h
          dsimp only at h
          rw [rx_nth_eq] at h
          obtain ⟨vv, r0, rfl, hv, hr0⟩ := ax_evs_cons hs
          obtain ⟨iv, r1, rfl, hi, hr1⟩ := ax_evs_cons hr0
          obtain ⟨av, r, rfl, ha, hr⟩ := ax_evs_cons hr1
          obtain ⟨h1, h2, h3, h4, k, n, l, f, p1, p2, p3, p4⟩ := ax_cell hE hT ha eg
          obtain ⟨i0, i1, i2, i3⟩ := ax_iv_ok hE ei hi
          rw [p1] at h
          dsimp only at h
          obtain ⟨hc, h⟩ := rx_cond h
          cases h
          obtain ⟨c1, hc⟩ := rx_and2.mp hc
          obtain ⟨c2, hc⟩ := rx_and2.mp hc
          obtain ⟨c3, hc⟩ := rx_and2.mp hc
          obtain ⟨c4, c5⟩ := rx_and2.mp hc
          obtain ⟨j1, j2, j3⟩ := ax_inr_ok c2 i1 i2 i3
          obtain ⟨b1, b2, b3⟩ := ax_wr_ok hX hE hT ha hi hv h1 h2 i0 h4 p1 p2 p3 j1 (ax_fits_ok c4 j2 j3 (ax_typ_ok hE et hv))
          refine ⟨(Nat.add pc 1, lvc, r, rx_hs hp (av / 4 - 2) (k, n, f.set (iv / 4) vv), [], 0, 0), ?_, ⟨_, List.mem_cons_self, ρ, _, fun _ _ => rfl, Nat.le_refl _, ⟨rfl, hl, hr, rfl, b1, b2⟩, b3.wk (ax_mem_one c5)⟩⟩
          unfold rx_ast
          show (bif Nat.beq (rx_tk av) 2 && Nat.ble 2 (rx_pl av) then (match rx_hg hp (Nat.sub (rx_pl av) 2) with
            | some (t, n, l) => bif Nat.beq (rx_tk (rx_kn [] iv)) 0 then (bif ok t vv && (Nat.blt (rx_pl (rx_kn [] iv)) n && Nat.blt n 100000) then some [(Nat.add pc 1, lvc, r, rx_hs hp (Nat.sub (rx_pl av) 2) (t, n, rx_upd l (rx_pl (rx_kn [] iv)) vv), [], 0, 0)] else none)
              else _
            | none => none) else none) = _
          rw [ax_tag2 h1 h2, cond_true, show rx_hg hp (Nat.sub (rx_pl av) 2) = some (k, n, f) from p2]
          dsimp only
          rw [ax_kn, rx_beq.mpr (show rx_tk iv = 0 from i0), hok k t v vv c1 et hv, rx_blt.mpr (show rx_pl iv < n from j1), c3, rx_upd_eq]
          rfl
theorem ax_t_alen (hE : ax_EO w X ρ E hp) (hT : ax_HT w hp) (hl : lv.map (ax_ev E.1 ρ) = lvc.map some) (hs : st.map (ax_ev E.1 ρ) = stc.map some)
    (h : ax_h_alen w pc lv st E = some out) : ∃ σ, rx_h_alen K N pc na nb lvc stc hp [] 0 0 = some [σ] ∧ ax_Res w X md ρ E.1 hp out σ := by
  match st, h, hs with
  | [], h, _ => cases h
  | a :: st', h, hs =>
    unfold ax_h_alen at h
    dsimp only at h
    cases eg : ax_rg w E a with
    | none => rw [eg] at h; cases h
    | some g =>
      rw [eg] at h
      dsimp only at h
      rw [rx_nth_eq] at h
      obtain ⟨av, r, rfl, ha, hr⟩ := ax_evs_cons hs
      obtain ⟨h1, h2, h3, h4, k, n, l, f, p1, p2, p3, p4⟩ := ax_cell hE hT ha eg
      rw [p1] at h
      dsimp only at h
      obtain ⟨hc, h⟩ := rx_cond h
      cases h
      obtain ⟨c1, c2⟩ := rx_and2.mp hc
      have e0 : rx_int n % 4 = 0 := by show 4 * n % 4 = 0; omega
      refine ⟨(Nat.add pc 1, lvc, rx_int n :: r, hp, [], 0, 0), ?_, ax_one hE hT hl (ax_evs_push (ax_ev_c (by omega)) hr) List.mem_cons_self⟩
      have h6 : Nat.beq av 6 = false := Bool.eq_false_iff.mpr (fun z => by have := rx_beq.mp z; omega)
      show (bif Nat.beq av 6 then _ else bif Nat.beq (rx_tk av) 2 && Nat.ble 2 (rx_pl av) then (match rx_hg hp (Nat.sub (rx_pl av) 2) with
        | some (t, n, _) => bif Nat.beq t 13 && Nat.blt n 100000 then some [(Nat.add pc 1, lvc, rx_int n :: r, hp, [], 0, 0)] else none
        | none => none) else none) = _
      rw [h6, cond_false, ax_tag2 h1 h2, cond_true, show rx_hg hp (Nat.sub (rx_pl av) 2) = some (k, n, f) from p2]
      dsimp only
      rw [c1, c2]
      rfl
theorem ax_within {v lo hi : Nat} (h0 : v % 4 = 0) (h1 : lo ≤ rx_bi (v / 4)) (h2 : rx_bi (v / 4) ≤ hi) : rx_within [] v lo hi = true := by
  unfold rx_within
  rw [ax_io h0]
  exact rx_and2.mpr ⟨rx_ble.mpr h1, rx_ble.mpr h2⟩
/-- ONE STEP: what the abstract interpreter says of an instruction, the interpreter does -/
theorem ax_step_ok (hX : ax_XD w X) {ins : Instr} {o i j : Nat} {tg : List Nat} (hnum : ax_num pc ins = some (o, i, j, tg)) (htg : o = 21 → tg ≠ []) (hE : ax_EO w X ρ E hp) (hT : ax_HT w hp) (hl : lv.map (ax_ev E.1 ρ) = lvc.map some) (hs : st.map (ax_ev E.1 ρ) = stc.map some)
    (h : ax_step w K md (rx_mL N) pc o i j na nb tg lv st E = some out) : ∃ σ, rx_sem ins K N pc na nb lvc stc hp [] 0 0 = some [σ] ∧ ax_Res w X md ρ E.1 hp out σ := by
  have okI : ∀ v x, ax_isK E 0 v = true → ax_ev E.1 ρ v = some x → rx_isI x = true := fun v x h1 h2 => rx_or2.mpr (Or.inl (rx_beq.mpr (ax_isK0 hE h1 h2).1))
  have okR : ∀ v x, ax_isR E v = true → ax_ev E.1 ρ v = some x → rx_isR x = true := fun v x h1 h2 => rx_and2.mpr ⟨rx_beq.mpr (ax_isRok hE h1 h2).1, rx_blt.mpr (ax_isRok hE h1 h2).2⟩
  have okJ : ∀ v x, ax_isK E 1 v = true → ax_ev E.1 ρ v = some x → rx_isJ x = true := fun v x h1 h2 => rx_beq.mpr (ax_isK1 hE h1 h2)
  cases ins with
  | iload_n k => cases hnum; exact ax_t_ld (K := K) (N := N) (na := na) (nb := nb) okI hE hT hl hs h
  | aload_n k => cases hnum; exact ax_t_ld (K := K) (N := N) (na := na) (nb := nb) okR hE hT hl hs h
  | lload_n k => cases hnum; exact ax_t_ld (K := K) (N := N) (na := na) (nb := nb) okJ hE hT hl hs h
  | iload k => cases hnum; exact ax_t_ld (K := K) (N := N) (na := na) (nb := nb) okI hE hT hl hs h
  | lload k => cases hnum; exact ax_t_ld (K := K) (N := N) (na := na) (nb := nb) okJ hE hT hl hs h
  | istore_n k => cases hnum; exact ax_t_sto (K := K) (N := N) (na := na) (nb := nb) okI hE hT hl h hs
  | astore_n k => cases hnum; exact ax_t_sto (K := K) (N := N) (na := na) (nb := nb) okR hE hT hl h hs
  | istore k => cases hnum; exact ax_t_sto (K := K) (N := N) (na := na) (nb := nb) okI hE hT hl h hs
  | lstore_n k => cases hnum; exact ax_t_stJ (K := K) (N := N) (na := na) (nb := nb) hE hT hl h hs
  | lstore k => cases hnum; exact ax_t_stJ (K := K) (N := N) (na := na) (nb := nb) hE hT hl h hs
  | iconst n => cases hnum; exact ax_t_psh (K := K) (N := N) (na := na) (nb := nb) hE hT hl hs h
  | bipush n => cases hnum; exact ax_t_psh (K := K) (N := N) (na := na) (nb := nb) hE hT hl hs h
  | sipush n => cases hnum; exact ax_t_psh (K := K) (N := N) (na := na) (nb := nb) hE hT hl hs h
  | ldc_w n => cases hnum; exact ax_t_psh (K := K) (N := N) (na := na) (nb := nb) hE hT hl hs h
  | ldc n => cases hnum; exact ax_t_ldc (K := K) (N := N) (na := na) (nb := nb) hE hT hl hs h
  | lconst n => cases hnum; exact ax_t_pshJ (K := K) (N := N) (na := na) (nb := nb) hE hT hl hs h
  | ldc2_w n => cases hnum; exact ax_t_pshJ (K := K) (N := N) (na := na) (nb := nb) hE hT hl hs h
  | iinc k n => cases hnum; exact ax_t_inc (K := K) (N := N) (na := na) (nb := nb) hE hT hl hs h
  | iadd => cases hnum; exact ax_t_bin (K := K) (N := N) (na := na) (nb := nb) (i := 0) (fun _ _ _ _ a b c => ax_ar (K := K) (N := N) (na := na) (nb := nb) a b c) hE hT hl h hs
  | isub => cases hnum; exact ax_t_bin (K := K) (N := N) (na := na) (nb := nb) (i := 1) (fun _ _ _ _ a b c => ax_ar (K := K) (N := N) (na := na) (nb := nb) a b c) hE hT hl h hs
  | imul => cases hnum; exact ax_t_bin (K := K) (N := N) (na := na) (nb := nb) (i := 2) (fun _ _ _ _ a b c => ax_ar (K := K) (N := N) (na := na) (nb := nb) a b c) hE hT hl h hs
  | iand => cases hnum; exact ax_t_bin (K := K) (N := N) (na := na) (nb := nb) (i := 3) (fun _ _ _ _ a b c => ax_ar (K := K) (N := N) (na := na) (nb := nb) a b c) hE hT hl h hs
  | ior => cases hnum; exact ax_t_bin (K := K) (N := N) (na := na) (nb := nb) (i := 4) (fun _ _ _ _ a b c => ax_ark (K := K) (N := N) (na := na) (nb := nb) a b c) hE hT hl h hs
  | ixor => cases hnum; exact ax_t_bin (K := K) (N := N) (na := na) (nb := nb) (i := 5) (fun _ _ _ _ a b c => ax_ark (K := K) (N := N) (na := na) (nb := nb) a b c) hE hT hl h hs
  | ishl => cases hnum; exact ax_t_bin (K := K) (N := N) (na := na) (nb := nb) (i := 6) (fun _ _ _ _ a b c => ax_ar (K := K) (N := N) (na := na) (nb := nb) a b c) hE hT hl h hs
  | ishr => cases hnum; exact ax_t_bin (K := K) (N := N) (na := na) (nb := nb) (i := 7) (fun _ _ _ _ a b c => ax_ark (K := K) (N := N) (na := na) (nb := nb) a b c) hE hT hl h hs
  | iushr => cases hnum; exact ax_t_bin (K := K) (N := N) (na := na) (nb := nb) (i := 8) (fun _ _ _ _ a b c => ax_ar (K := K) (N := N) (na := na) (nb := nb) a b c) hE hT hl h hs
  | idiv => cases hnum; exact ax_t_bin (K := K) (N := N) (na := na) (nb := nb) (i := 9) (fun _ _ _ _ a b c => ax_ark (K := K) (N := N) (na := na) (nb := nb) a b c) hE hT hl h hs
  | irem => cases hnum; exact ax_t_bin (K := K) (N := N) (na := na) (nb := nb) (i := 10) (fun _ _ _ _ a b c => ax_ark (K := K) (N := N) (na := na) (nb := nb) a b c) hE hT hl h hs
  | ineg => cases hnum; exact ax_t_ineg (K := K) (N := N) (na := na) (nb := nb) hE hT hl h hs
  | i2b => cases hnum; exact ax_t_i2b (K := K) (N := N) (na := na) (nb := nb) hE hT hl h hs
  | ladd => cases hnum; exact ax_t_arJ (j := 0) (by decide) (K := K) (N := N) (na := na) (nb := nb) hE hT hl h hs
  | lsub => cases hnum; exact ax_t_arJ (j := 1) (by decide) (K := K) (N := N) (na := na) (nb := nb) hE hT hl h hs
  | lmul => cases hnum; exact ax_t_arJ (j := 2) (by decide) (K := K) (N := N) (na := na) (nb := nb) hE hT hl h hs
  | land => cases hnum; exact ax_t_arJ (j := 3) (by decide) (K := K) (N := N) (na := na) (nb := nb) hE hT hl h hs
  | lor => cases hnum; exact ax_t_arJ (j := 4) (by decide) (K := K) (N := N) (na := na) (nb := nb) hE hT hl h hs
  | lxor => cases hnum; exact ax_t_arJ (j := 5) (by decide) (K := K) (N := N) (na := na) (nb := nb) hE hT hl h hs
  | lshl => cases hnum; exact ax_t_shJ (K := K) (N := N) (na := na) (nb := nb) hE hT hl h hs
  | lshr => cases hnum; exact ax_t_shrJ (K := K) (N := N) (na := na) (nb := nb) hE hT hl h hs
  | lcmp => cases hnum; exact ax_t_lcmp (K := K) (N := N) (na := na) (nb := nb) hE hT hl h hs
  | dup => cases hnum; exact ax_t_dup (K := K) (N := N) (na := na) (nb := nb) hE hT hl h hs
  | pop => cases hnum; exact ax_t_pop (K := K) (N := N) (na := na) (nb := nb) hE hT hl h hs
  | dup2 => cases hnum; exact ax_t_dup2 (K := K) (N := N) (na := na) (nb := nb) hE hT hl h hs
  | goto off => cases hnum; exact ax_t_goto (pc := pc) (K := K) (N := N) (na := na) (nb := nb) hE hT hl hs h
  | ifCond k off => cases hnum; exact ax_t_if (K := K) (N := N) (na := na) (nb := nb) hE hT hl h hs
  | if_icmp k off => cases hnum; exact ax_t_icmp (K := K) (N := N) (na := na) (nb := nb) hE hT hl h hs
  | tableswitch d lo hi offs =>
    have h21 : o = 21 := by
      obtain ⟨-, h2⟩ := rx_cond hnum
      cases h2
      rfl
    have h0 : j = 0 := by
      obtain ⟨-, h2⟩ := rx_cond hnum
      cases h2
      rfl
    subst h21
    subst h0
    exact ax_t_tsw (K := K) (N := N) (na := na) (nb := nb) hnum hE hT hl h (htg rfl) hs
  | getfield k => cases hnum; exact ax_t_gf (K := K) (N := N) (na := na) (nb := nb) hE hT hl hs h
  | putfield k => cases hnum; exact ax_t_pf (K := K) (N := N) (na := na) (nb := nb) hX hE hT hl hs h
  | arraylength => cases hnum; exact ax_t_alen (K := K) (N := N) (na := na) (nb := nb) hE hT hl hs h
  | iaload => cases hnum; exact ax_t_ald (K := K) (N := N) (na := na) (nb := nb) (o := 13) (fun k hk => rx_beq.mpr (rx_beq.mp hk).symm) hE hT hl hs h
  | baload => cases hnum; exact ax_t_ald (K := K) (N := N) (na := na) (nb := nb) (o := 12) (fun k hk => hk) hE hT hl hs h
  | laload => cases hnum; exact ax_t_ald (K := K) (N := N) (na := na) (nb := nb) (o := 14) (fun k hk => rx_beq.mpr (rx_beq.mp hk).symm) hE hT hl hs h
  | aaload => cases hnum; exact ax_t_ald (K := K) (N := N) (na := na) (nb := nb) (o := 16) (fun k hk => rx_beq.mpr (rx_beq.mp hk).symm) hE hT hl hs h
  | iastore =>
    cases hnum
    refine ax_t_ast (o := 13) (fun k t v vv hk ht hv => ?_) hX hE hT hl hs h
    obtain ⟨k1, k2⟩ := rx_and2.mp hk
    refine rx_and2.mpr ⟨k1, ?_⟩
    have k2 := rx_beq.mp k2
    rcases ax_typ_ok hE ht hv with ⟨-, q, -⟩ | ⟨q, -⟩ | ⟨q, -⟩ | ⟨q, -⟩
    · exact rx_or2.mpr (Or.inl (rx_beq.mpr q))
    · omega
    · omega
    · omega
  | bastore =>
    cases hnum
    refine ax_t_ast (o := 12) (fun k t v vv hk ht hv => ?_) hX hE hT hl hs h
    obtain ⟨k0, hk⟩ := rx_and2.mp hk
    have k0 := rx_beq.mp k0
    rcases ax_typ_ok hE ht hv with ⟨-, q1, q2, q3, q4⟩ | ⟨q, -⟩ | ⟨q, -⟩ | ⟨q, -⟩
    · rcases rx_or2.mp hk with hk | hk
      · obtain ⟨k1, hk⟩ := rx_and2.mp hk
        obtain ⟨k2, k3⟩ := rx_and2.mp hk
        exact rx_or2.mpr (Or.inl (rx_and2.mpr ⟨k1, ax_within q1 (Nat.le_trans (rx_ble.mp k2) q3) (Nat.le_trans q4 (rx_ble.mp k3))⟩))
      · obtain ⟨k1, hk⟩ := rx_and2.mp hk
        obtain ⟨k2, k3⟩ := rx_and2.mp hk
        exact rx_or2.mpr (Or.inr (rx_and2.mpr ⟨k1, ax_bit_ok q1 q2 (Nat.le_trans (rx_ble.mp k2) q3) (Nat.le_trans q4 (rx_ble.mp k3))⟩))
    · omega
    · omega
    · omega
  | lastore =>
    cases hnum
    refine ax_t_ast (o := 14) (fun k t v vv hk ht hv => ?_) hX hE hT hl hs h
    obtain ⟨k1, k2⟩ := rx_and2.mp hk
    refine rx_and2.mpr ⟨k1, ?_⟩
    have k2 := rx_beq.mp k2
    rcases ax_typ_ok hE ht hv with ⟨q, -⟩ | ⟨-, q⟩ | ⟨q, -⟩ | ⟨q, -⟩
    · omega
    · exact rx_beq.mpr q
    · omega
    · omega
  | aastore =>
    cases hnum
    refine ax_t_ast (o := 16) (fun k t v vv hk ht hv => ?_) hX hE hT hl hs h
    replace hk : (Nat.beq k 16 && (match ax_rg w E v with
      | some g => (match rx_nth w.2.1 g with
        | some z => Nat.beq z.1 7
        | none => false)
      | none => false)) = true := hk
    obtain ⟨k1, hk⟩ := rx_and2.mp hk
    refine rx_and2.mpr ⟨k1, ?_⟩
    cases eg : ax_rg w E v with
    | none => rw [eg] at hk; cases hk
    | some g =>
      rw [eg] at hk
      dsimp only at hk
      obtain ⟨h1, h2, h3, h4, k', n, l, f, p1, p2, p3, p4⟩ := ax_cell hE hT hv eg
      rw [rx_nth_eq, p1] at hk
      unfold rx_obj
      rw [show rx_hg hp (Nat.sub (rx_pl vv) 2) = some (k', n, f) from p2]
      exact rx_and2.mpr ⟨rx_beq.mpr h1, rx_and2.mpr ⟨rx_ble.mpr h2, hk⟩⟩
  | _ => cases hnum
end AXV
