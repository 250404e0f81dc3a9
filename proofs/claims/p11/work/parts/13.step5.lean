theorem rx_bv2 {P : Prop} (h : P) : P := h
theorem rx_i8_id {x : Int32} (h1 : 2147483520 ≤ rx_bias x) (h2 : rx_bias x ≤ 2147483775) : vp_nar .byte x = x := by
  rw [vp_nar_byte]
  have h3 := x.le_toInt
  have h4 := x.toInt_lt
  unfold rx_bias at h1 h2
  apply Int32.toInt_inj.mp
  rw [Int8.toInt_toInt32, Int32.toInt_toInt8]
  rw [Int.bmod_eq_of_le (by omega) (by omega)]
/-- the words, and what String's methods read -/
noncomputable def rx_sln : List Nat := rx_sbyt.map List.length
noncomputable def rx_sb32 : List (List Int32) := rx_sbyt.map (fun l => l.map Int32.ofNat)
noncomputable def rx_sidx : List Nat := [64, 86, 91, 95, 99, 135, 137, 139]
noncomputable def rx_stx : List String := ["switches", "link", "root", "room", "rank", "far", "number", "links"]
noncomputable def rx_Zt (b : Nat → Nat) (A : Nat → Prop) (s : State) : Prop :=
  vk_S 8 rx_sln rx_sb32 (fun i => b (i + 1)) (fun i => b (i + 9)) A s s.heap ∧ (∀ i : Nat, i < 8 → vk_R "TurnNet$Reader" (rx_sidx.getD i 0) (rx_stx.getD i "") (b (i + 1)) s) ∧ va_Z "java/lang/String" "COMPACT_STRINGS" "Z" (.int 1) A s s.heap ∧ va_Zq "jdk/internal/util/Preconditions" "SIOOBE_FORMATTER" "Ljava/util/function/BiFunction;" A s s.heap
theorem rx_Zt.call {b : Nat → Nat} {A B : Nat → Prop} {s U : State} {H : Heap} {locs : List Loc} (hW : s.WarmedH U.vm) (hU : U.heap = H) (hS : va_S A s.heap H locs) (hAB : ∀ q, B q → A q) (h : rx_Zt b A s) : rx_Zt b B U := by
  obtain ⟨h1, h2, h3, h4⟩ := h
  refine ⟨?_, fun i hi => vk_R.warm hW (h2 i hi), ?_, ?_⟩
  · rw [hU]; exact ((vk_S.moved hW.alike h1).kept hS.2.1).narrow hAB
  · rw [hU]; exact ((va_Z.moved hW.alike h3).kept hS.2.1).narrow hAB
  · rw [hU]; exact ((va_Zq.moved hW.alike h4).kept hS.2.1).narrow hAB
theorem rx_Zt.blind {b : Nat → Nat} {A : Nat → Prop} {U : State} {g : JFrame} {mk : MethodId} {a : Array Value} (h : rx_Zt b A U) : rx_Zt b A (U.calling g mk a) :=
  ⟨vk_S.moved (u := U) (U := U.calling g mk a) (Vm.Alike.refl U.vm) h.1, fun i hi => vk_R.same (u := U) (U := U.calling g mk a) rfl (h.2.1 i hi), va_Z.moved (u := U) (U := U.calling g mk a) (Vm.Alike.refl U.vm) h.2.2.1, va_Zq.moved (u := U) (U := U.calling g mk a) (Vm.Alike.refl U.vm) h.2.2.2⟩
/-- the script, if there is one; the words -/
noncomputable def rx_Sc (N : rx_N) (b : Nat → Nat) (A : Nat → Prop) (H0 : Heap) (en0 : List Int32) (s : State) : Prop := (∀ L : Nat, rx_sl N = L + 1 → ∃ xs : Nat → Int32, va_X (b 0) L xs s H0 ∧ b 0 < H0.size ∧ ¬ A (b 0) ∧ L < 100000 ∧ ∀ j : Nat, j < L → Int32.ofNat (rx_sx N j) = xs j) ∧ H0 = s.heap ∧ rx_Zt b A s
section RXS5
variable {p : Program} {l : Launch} {e : Env} {R : Room} {s : State} {m : MethodId} {args : Array Value} {below : List Frame} {meth : Method} {c : Code} {Q : State → Prop} {cc : ByteArray}
variable {cy : Nat → ClassId} {D : va_G} {b : Nat → Nat} {A : Nat → Prop} {H0 : Heap} {ad0 : List Nat} {en0 : List Int32} {nL : Nat}
variable {K : rx_K} {N : rx_N} {pc na nb cn sn : Nat} {lv : rx_L} {st : List Nat} {hp : rx_H} {iv : rx_I} {out : List rx_S} {own : String}
theorem rx_s_alen (hx : p.tables.exec = Jvm.exec) (hb : c.code = cc) (hd : decode cc pc = .ok (.arraylength, 1)) (hSc : rx_Sc N b A H0 en0 s) (hK : va_K D vwCl (rx_tys cy) s)
    (h : rx_h_alen K N pc na nb lv st hp iv cn sn = some out) (hG : ∀ σ ∈ out, rx_G p l e R s m args below meth c Q cy D b A H0 ad0 en0 nL σ) : rx_G p l e R s m args below meth c Q cy D b A H0 ad0 en0 nL (pc, lv, st, hp, iv, cn, sn) := by
  intro ad en ls stA H locs ws hR
  obtain ⟨h1, h2, h3, h4, h5, h6, h7, h8, h9⟩ := hR
  cases st with
  | nil => cases h
  | cons v st' =>
    replace h : (bif Nat.beq v 6 then (bif Nat.blt 0 (rx_sl N) then some [(Nat.add pc 1, lv, rx_int (Nat.pred (rx_sl N)) :: st', hp, iv, cn, sn)] else none)
      else bif Nat.beq (rx_tk v) 2 && Nat.ble 2 (rx_pl v) then (match rx_hg hp (Nat.sub (rx_pl v) 2) with
        | some (t, n, _) => bif Nat.beq t 13 && Nat.blt n 100000 then some [(Nat.add pc 1, lv, rx_int n :: st', hp, iv, cn, sn)] else none
        | none => none) else none) = some out := h
    obtain ⟨x, r, rfl, hxv, h8n⟩ := rx_st_cons h8
    cases hv : Nat.beq v 6 with
    | true =>
      rw [hv, cond_true] at h
      obtain ⟨hl, h⟩ := rx_cond h
      cases h
      have hv : v = 6 := rx_beq.mp hv
      have hl : 0 < rx_sl N := rx_blt.mp hl
      obtain ⟨xs, q1, q2, q3, q4, q5⟩ := hSc.1 (rx_sl N - 1) (by omega)
      subst hv
      have hx6 : x = .ref (b 0) := (Option.some.inj hxv).symm
      subst hx6
      exact va_slen hx hb q1 q2 q3 h6 hd (hG _ List.mem_cons_self ad en ls _ H locs ws ⟨h1, h2, h3, h4, h5, h6, h7, rx_st_push (rx_int_cv b ad en _) h8n, h9⟩)
    | false =>
      rw [hv, cond_false] at h
      obtain ⟨ht, h⟩ := rx_cond h
      cases hg : rx_hg hp (Nat.sub (rx_pl v) 2) with
      | none => rw [hg] at h; cases h
      | some cl =>
        obtain ⟨t, n, f⟩ := cl
        rw [hg] at h
        dsimp only at h
        obtain ⟨hc, h⟩ := rx_cond h
        cases h
        obtain ⟨c1, c2⟩ := rx_and2.mp hc
        have c1 : t = 13 := rx_beq.mp c1
        subst c1
        obtain ⟨a, ee, rfl, ha, hw, hcl⟩ := rx_ref_at h3 ht hxv hg
        obtain ⟨gg, rfl, hgg⟩ := hcl.nums (Or.inr (Or.inl rfl))
        exact va_alen hx hb hK h4 _ 1 hw rfl rfl hd (hG _ List.mem_cons_self ad en ls _ H locs ws ⟨h1, h2, h3, h4, h5, h6, h7, rx_st_push (rx_int_cv b ad en _) h8n, h9⟩)
/-- an array is read: the row for each kind -/
theorem rx_s_ald {ok : Nat → Bool} (hx : p.tables.exec = Jvm.exec) (hb : c.code = cc) (hSc : rx_Sc N b A H0 en0 s)
    (hs : ok 13 = true → decode cc pc = .ok (.iaload, 1))
    (row : ∀ {ad : List Nat} {en : List Int32} {t n i a q : Nat} {f : List Nat} {ee : va_E} {ws : va_W} {H : Heap} {locs : List Loc} {ls : Array Slot} {r : List Value} {v : Nat}, ok t = true → rx_RC cy b ad en (t, n, f) ee → ws[q]? = some (a, ee) → va_P D vwCl ws H → i < n → n < 2 ^ 31 → f[i]? = some v → ∃ x : Value, rx_cv b ad en v = some x ∧ (W p l e R s m args below meth c H locs cn sn Q (F0 m (pc + 1) ls (x :: r)) → W p l e R s m args below meth c H locs cn sn Q (F0 m pc ls (.int (nI i) :: .ref a :: r))))
    (h : rx_h_ald ok K N pc na nb lv st hp iv cn sn = some out) (hG : ∀ σ ∈ out, rx_G p l e R s m args below meth c Q cy D b A H0 ad0 en0 nL σ) : rx_G p l e R s m args below meth c Q cy D b A H0 ad0 en0 nL (pc, lv, st, hp, iv, cn, sn) := by
  match st, h with
  | [], h => cases h
  | [_], h => cases h
  | ix :: v :: st', h =>
    unfold rx_h_ald at h
    replace h : (bif Nat.beq v 6 then (bif Nat.beq (rx_tk (rx_kn iv ix)) 0 && (ok 13 && Nat.blt (Nat.succ (rx_pl (rx_kn iv ix))) (rx_sl N)) then some [(Nat.add pc 1, lv, rx_int (rx_sx N (rx_pl (rx_kn iv ix))) :: st', hp, iv, cn, sn)] else none)
      else bif Nat.beq (rx_tk v) 2 && Nat.ble 2 (rx_pl v) then (match rx_hg hp (Nat.sub (rx_pl v) 2) with
      | some (t, n, l) => bif Nat.beq (rx_tk (rx_kn iv ix)) 0 then (bif ok t && (Nat.blt (rx_pl (rx_kn iv ix)) n && Nat.blt n 100000) then (match rx_nth l (rx_pl (rx_kn iv ix)) with
            | some x => some [(Nat.add pc 1, lv, x :: st', hp, iv, cn, sn)]
            | none => none) else none)
          else rx_half pc lv (ix :: v :: st') hp iv cn sn (rx_kn iv ix)
      | none => none) else none) = some out := h
    cases hv6 : Nat.beq v 6 with
    | true =>
      rw [hv6, cond_true] at h
      obtain ⟨hc, h⟩ := rx_cond h
      cases h
      obtain ⟨c1, hc⟩ := rx_and2.mp hc
      obtain ⟨c2, c3⟩ := rx_and2.mp hc
      have c3 : rx_pl (rx_kn iv ix) + 1 < rx_sl N := rx_blt.mp c3
      have hv6 : v = 6 := rx_beq.mp hv6
      intro ad en ls stA H locs ws hR
      obtain ⟨h1, h2, h3, h4, h5, h6, h7, h8, h9⟩ := hR
      obtain ⟨xs, q1, q2, q3, q4, q5⟩ := hSc.1 (rx_sl N - 1) (by omega)
      obtain ⟨ii, r1, rfl, hii, h8a⟩ := rx_st_cons h8
      obtain ⟨vv, r, rfl, hvv, h8b⟩ := rx_st_cons h8a
      have ei := (rx_cv0 (b := b) (ad := ad) (en := en) (rx_beq.mp c1)).symm.trans (rx_kn_cv h9 hii)
      have ei := Option.some.inj ei
      subst ei
      rw [hv6] at hvv
      have ev : vv = .ref (b 0) := (Option.some.inj hvv).symm
      subst ev
      have hin : vp_in (nI (rx_pl (rx_kn iv ix))) (rx_sl N - 1) := vp_in_nI (by omega) (by omega)
      have hval := q5 (rx_pl (rx_kn iv ix)) (by omega)
      have hcl : (nI (rx_pl (rx_kn iv ix))).toNatClampNeg = rx_pl (rx_kn iv ix) := nI_clamp (by omega)
      refine va_sld hx hb q1 q2 q3 h6 hin (hs c2) ?_
      rw [show (Int32.ofNat (rx_kn iv ix / 4)).toNatClampNeg = rx_pl (rx_kn iv ix) from hcl]
      exact hG _ List.mem_cons_self ad en ls _ H locs ws ⟨h1, h2, h3, h4, h5, h6, h7, rx_st_push (by rw [rx_int_cv, hval]) h8b, h9⟩
    | false =>
      rw [hv6, cond_false] at h
      obtain ⟨ht, h⟩ := rx_cond h
      cases hg : rx_hg hp (Nat.sub (rx_pl v) 2) with
      | none => rw [hg] at h; cases h
      | some cl =>
        obtain ⟨t, n, f⟩ := cl
        rw [hg] at h
        replace h : (bif Nat.beq (rx_tk (rx_kn iv ix)) 0 then (bif ok t && (Nat.blt (rx_pl (rx_kn iv ix)) n && Nat.blt n 100000) then (match rx_nth f (rx_pl (rx_kn iv ix)) with
            | some x => some [(Nat.add pc 1, lv, x :: st', hp, iv, cn, sn)]
            | none => none) else none)
          else rx_half pc lv (ix :: v :: st') hp iv cn sn (rx_kn iv ix)) = some out := h
        cases hi0 : Nat.beq (rx_tk (rx_kn iv ix)) 0 with
        | false => rw [hi0, cond_false] at h; exact rx_s_half h hG
        | true =>
          rw [hi0, cond_true] at h
          obtain ⟨hc, h⟩ := rx_cond h
          obtain ⟨c1, hc⟩ := rx_and2.mp hc
          obtain ⟨c2, c3⟩ := rx_and2.mp hc
          have c2 : rx_pl (rx_kn iv ix) < n := rx_blt.mp c2
          have c3 : n < 100000 := rx_blt.mp c3
          rw [rx_nth_eq] at h
          cases hf : f[rx_pl (rx_kn iv ix)]? with
          | none => rw [hf] at h; cases h
          | some w =>
            rw [hf] at h
            cases h
            intro ad en ls stA H locs ws hR
            obtain ⟨h1, h2, h3, h4, h5, h6, h7, h8, h9⟩ := hR
            obtain ⟨ii, r1, rfl, hii, h8a⟩ := rx_st_cons h8
            obtain ⟨vv, r, rfl, hvv, h8b⟩ := rx_st_cons h8a
            have ei := (rx_cv0 (b := b) (ad := ad) (en := en) (rx_beq.mp hi0)).symm.trans (rx_kn_cv h9 hii)
            have ei := Option.some.inj ei
            subst ei
            obtain ⟨a, ee, rfl, ha, hw, hcl⟩ := rx_ref_at h3 ht hvv hg
            obtain ⟨x, hx1, hrow⟩ := row (locs := locs) (ls := ls) (r := r) c1 hcl hw h4 c2 (Nat.lt_trans c3 (by decide)) hf
            exact hrow (hG _ List.mem_cons_self ad en ls (x :: r) H locs ws ⟨h1, h2, h3, h4, h5, h6, h7, rx_st_push hx1 h8b, h9⟩)
theorem rx_s_iald (hx : p.tables.exec = Jvm.exec) (hb : c.code = cc) (hSc : rx_Sc N b A H0 en0 s) (hK : va_K D vwCl (rx_tys cy) s) (hd : decode cc pc = .ok (.iaload, 1))
    (h : rx_h_ald (fun t => Nat.beq t 13) K N pc na nb lv st hp iv cn sn = some out) (hG : ∀ σ ∈ out, rx_G p l e R s m args below meth c Q cy D b A H0 ad0 en0 nL σ) : rx_G p l e R s m args below meth c Q cy D b A H0 ad0 en0 nL (pc, lv, st, hp, iv, cn, sn) := by
  refine rx_s_ald hx hb hSc (fun _ => hd) ?_ h hG
  intro ad en t n i a q f ee ws H locs ls r v ht hc hw hP hi hn hf
  have ht : t = 13 := rx_beq.mp ht
  subst ht
  obtain ⟨g, rfl, hg⟩ := hc.nums (Or.inr (Or.inl rfl))
  refine ⟨_, hg i v hf, fun k => ?_⟩
  refine va_iald hx hb hK hP q 1 hw rfl (vp_in_nI hi hn) hd ?_
  rw [nI_clamp (Nat.lt_trans hi hn)]
  exact k
theorem rx_s_bald (hx : p.tables.exec = Jvm.exec) (hb : c.code = cc) (hSc : rx_Sc N b A H0 en0 s) (hK : va_K D vwCl (rx_tys cy) s) (hd : decode cc pc = .ok (.baload, 1))
    (h : rx_h_ald (fun t => Nat.beq t 12 || Nat.beq t 15) K N pc na nb lv st hp iv cn sn = some out) (hG : ∀ σ ∈ out, rx_G p l e R s m args below meth c Q cy D b A H0 ad0 en0 nL σ) : rx_G p l e R s m args below meth c Q cy D b A H0 ad0 en0 nL (pc, lv, st, hp, iv, cn, sn) := by
  refine rx_s_ald hx hb hSc (fun z => by cases z) ?_ h hG
  intro ad en t n i a q f ee ws H locs ls r v ht hc hw hP hi hn hf
  rcases rx_or2.mp ht with ht | ht
  · have ht : t = 12 := rx_beq.mp ht
    subst ht
    obtain ⟨g, rfl, hg⟩ := hc.nums (Or.inl rfl)
    refine ⟨_, hg i v hf, fun k => ?_⟩
    refine va_bald hx hb hK hP q 0 hw rfl (vp_in_nI hi hn) hd ?_
    rw [nI_clamp (Nat.lt_trans hi hn)]
    exact k
  · have ht : t = 15 := rx_beq.mp ht
    subst ht
    obtain ⟨g, rfl, hg⟩ := hc.nums (Or.inr (Or.inr rfl))
    refine ⟨_, hg i v hf, fun k => ?_⟩
    refine va_zald hx hb hK hP q 3 hw rfl (vp_in_nI hi hn) hd ?_
    rw [nI_clamp (Nat.lt_trans hi hn)]
    exact k
theorem rx_s_aald (hx : p.tables.exec = Jvm.exec) (hb : c.code = cc) (hSc : rx_Sc N b A H0 en0 s) (hK : va_K D vwCl (rx_tys cy) s) (hd : decode cc pc = .ok (.aaload, 1))
    (h : rx_h_ald (fun t => Nat.beq t 16) K N pc na nb lv st hp iv cn sn = some out) (hG : ∀ σ ∈ out, rx_G p l e R s m args below meth c Q cy D b A H0 ad0 en0 nL σ) : rx_G p l e R s m args below meth c Q cy D b A H0 ad0 en0 nL (pc, lv, st, hp, iv, cn, sn) := by
  refine rx_s_ald hx hb hSc (fun z => by cases z) ?_ h hG
  intro ad en t n i a q f ee ws H locs ls r v ht hc hw hP hi hn hf
  have ht : t = 16 := rx_beq.mp ht
  subst ht
  obtain ⟨g, rfl, hg⟩ := hc.refs rfl
  refine ⟨_, hg i v hf, fun k => ?_⟩
  refine va_aldq hx hb hK hP q 4 hw rfl (vp_in_nI hi hn) hd ?_
  rw [nI_clamp (Nat.lt_trans hi hn)]
  exact k
/-- an array is written: the row for each kind -/
theorem rx_s_ast {ok : Nat → Nat → Bool}
    (row : ∀ {ad : List Nat} {en : List Int32} {t n i a q u : Nat} {f : List Nat} {ee : va_E} {ws : va_W} {H : Heap} {locs : List Loc} {ls : Array Slot} {r : List Value} {x : Value}, ok t u = true → rx_RI iv en → rx_RW cy b ad en hp ws → rx_RC cy b ad en (t, n, f) ee → ws[q]? = some (a, ee) → va_P D vwCl ws H → va_D A ws → va_S A H0 H locs → i < n → n < 2 ^ 31 → rx_cv b ad en u = some x →
      ∃ ee' : va_E, rx_RC cy b ad en (t, n, f.set i u) ee' ∧ ((∀ (H1 : Heap) (locs1 : List Loc), va_P D vwCl (ws.set q (a, ee')) H1 → va_D A (ws.set q (a, ee')) → va_S A H0 H1 locs1 → W p l e R s m args below meth c H1 locs1 cn sn Q (F0 m (pc + 1) ls r)) → W p l e R s m args below meth c H locs cn sn Q (F0 m pc ls (x :: .int (nI i) :: .ref a :: r))))
    (h : rx_ast ok pc lv st hp iv cn sn = some out) (hG : ∀ σ ∈ out, rx_G p l e R s m args below meth c Q cy D b A H0 ad0 en0 nL σ) : rx_G p l e R s m args below meth c Q cy D b A H0 ad0 en0 nL (pc, lv, st, hp, iv, cn, sn) := by
  match st, h with
  | [], h => cases h
  | [_], h => cases h
  | [_, _], h => cases h
  | u :: ix :: v :: st', h =>
    unfold rx_ast at h
    obtain ⟨ht, h⟩ := rx_cond h
    cases hg : rx_hg hp (Nat.sub (rx_pl v) 2) with
    | none => rw [hg] at h; cases h
    | some cl =>
      obtain ⟨t, n, f⟩ := cl
      rw [hg] at h
      replace h : (bif Nat.beq (rx_tk (rx_kn iv ix)) 0 then (bif ok t u && (Nat.blt (rx_pl (rx_kn iv ix)) n && Nat.blt n 100000) then some [(Nat.add pc 1, lv, st', rx_hs hp (Nat.sub (rx_pl v) 2) (t, n, rx_upd f (rx_pl (rx_kn iv ix)) u), iv, cn, sn)] else none)
        else rx_half pc lv (u :: ix :: v :: st') hp iv cn sn (rx_kn iv ix)) = some out := h
      cases hi0 : Nat.beq (rx_tk (rx_kn iv ix)) 0 with
      | false => rw [hi0, cond_false] at h; exact rx_s_half h hG
      | true =>
        rw [hi0, cond_true] at h
        obtain ⟨hc, h⟩ := rx_cond h
        cases h
        obtain ⟨c1, hc⟩ := rx_and2.mp hc
        obtain ⟨c2, c3⟩ := rx_and2.mp hc
        have c2 : rx_pl (rx_kn iv ix) < n := rx_blt.mp c2
        have c3 : n < 100000 := rx_blt.mp c3
        intro ad en ls stA H locs ws hR
        obtain ⟨h1, h2, h3, h4, h5, h6, h7, h8, h9⟩ := hR
        obtain ⟨x, r1, rfl, hxu, h8a⟩ := rx_st_cons h8
        obtain ⟨ii, r2, rfl, hii, h8b⟩ := rx_st_cons h8a
        obtain ⟨vv, r, rfl, hvv, h8c⟩ := rx_st_cons h8b
        have ei := (rx_cv0 (b := b) (ad := ad) (en := en) (rx_beq.mp hi0)).symm.trans (rx_kn_cv h9 hii)
        have ei := Option.some.inj ei
        subst ei
        obtain ⟨a, ee, rfl, ha, hw, hcl⟩ := rx_ref_at h3 ht hvv hg
        obtain ⟨ee', hc', hrow⟩ := row (ls := ls) (r := r) c1 h9 h3 hcl hw h4 h5 h6 c2 (Nat.lt_trans c3 (by decide)) hxu
        have hRW := h3.set (rx_hg_lt hg) ha hc'
        rw [← rx_upd_eq] at hRW
        exact hrow (fun H1 locs1 p1 p2 p3 => hG _ List.mem_cons_self ad en ls r H1 locs1 _ ⟨h1, h2, hRW, p1, p2, p3, h7, h8c, h9⟩)
theorem rx_nums_set {ad : List Nat} {en : List Int32} {t n i u : Nat} {f : List Nat} {g : Nat → Int32} {x : Int32} (h0 : f.length = n) (ht : t = 12 ∨ t = 13 ∨ t = 15) (hg : ∀ j v, f[j]? = some v → rx_cv b ad en v = some (.int (g j))) (hu : rx_cv b ad en u = some (.int x)) : rx_RC cy b ad en (t, n, f.set i u) (.inl (cy t, n, .inl (upd g i x))) := by
  refine ⟨by show (f.set i u).length = n; rw [List.length_set]; exact h0, Or.inr (Or.inl ⟨ht, _, rfl, fun j v hj => ?_⟩)⟩
  replace hj : (f.set i u)[j]? = some v := hj
  by_cases e : j = i
  · subst e
    have hlt := (List.getElem?_eq_some_iff.mp hj).1
    rw [List.length_set] at hlt
    rw [List.getElem?_set_self hlt] at hj
    cases hj
    rw [pk_us]
    exact hu
  · rw [List.getElem?_set_ne (Ne.symm e)] at hj
    rw [pk_un e]
    exact hg j v hj
theorem rx_s_iast (hx : p.tables.exec = Jvm.exec) (hb : c.code = cc) (hK : va_K D vwCl (rx_tys cy) s) (hd : decode cc pc = .ok (.iastore, 1))
    (h : rx_h_iast K N pc na nb lv st hp iv cn sn = some out) (hG : ∀ σ ∈ out, rx_G p l e R s m args below meth c Q cy D b A H0 ad0 en0 nL σ) : rx_G p l e R s m args below meth c Q cy D b A H0 ad0 en0 nL (pc, lv, st, hp, iv, cn, sn) := by
  refine rx_s_ast ?_ h hG
  intro ad en t n i a q u f ee ws H locs ls r x hok h9 h3 hc hw hP hD hS hi hn hxu
  obtain ⟨ht, hI⟩ := rx_and2.mp hok
  have ht : t = 13 := rx_beq.mp ht
  subst ht
  obtain ⟨g, rfl, hg⟩ := hc.nums (Or.inr (Or.inl rfl))
  obtain ⟨y, rfl⟩ := rx_isI_cv hI hxu
  refine ⟨_, rx_nums_set hc.1 (Or.inr (Or.inl rfl)) hg hxu, fun k => ?_⟩
  refine va_iast hx hb hK hP hD hS q 1 hw rfl (vp_in_nI hi hn) hd ?_
  rw [nI_clamp (Nat.lt_trans hi hn)]
  exact k
theorem rx_s_bast (hx : p.tables.exec = Jvm.exec) (hb : c.code = cc) (hK : va_K D vwCl (rx_tys cy) s) (hd : decode cc pc = .ok (.bastore, 1))
    (h : rx_h_bast K N pc na nb lv st hp iv cn sn = some out) (hG : ∀ σ ∈ out, rx_G p l e R s m args below meth c Q cy D b A H0 ad0 en0 nL σ) : rx_G p l e R s m args below meth c Q cy D b A H0 ad0 en0 nL (pc, lv, st, hp, iv, cn, sn) := by
  refine rx_s_ast ?_ h hG
  intro ad en t n i a q u f ee ws H locs ls r x hok h9 h3 hc hw hP hD hS hi hn hxu
  rcases rx_or2.mp hok with hok | hok
  · obtain ⟨ht, hI⟩ := rx_and2.mp hok
    have ht : t = 12 := rx_beq.mp ht
    subst ht
    obtain ⟨g, rfl, hg⟩ := hc.nums (Or.inl rfl)
    unfold rx_within at hI
    cases hio : rx_io iv u with
    | none => rw [hio] at hI; cases hI
    | some w =>
      obtain ⟨w1, w2⟩ := w
      rw [hio] at hI
      obtain ⟨i1, i2⟩ := rx_and2.mp hI
      obtain ⟨y, hy, e1, e2⟩ := rx_io_cv (b := b) (ad := ad) h9 hio
      cases hy.symm.trans hxu
      have hnar : vp_nar .byte y = y := rx_i8_id (Nat.le_trans (rx_ble.mp i1) e1) (Nat.le_trans e2 (rx_ble.mp i2))
      refine ⟨_, rx_nums_set hc.1 (Or.inl rfl) hg hxu, fun k => ?_⟩
      refine va_bast hx hb hK hP hD hS q 0 hw rfl (vp_in_nI hi hn) hd ?_
      rw [nI_clamp (Nat.lt_trans hi hn), hnar]
      exact k
  · obtain ⟨ht, hI⟩ := rx_and2.mp hok
    have ht : t = 15 := rx_beq.mp ht
    subst ht
    obtain ⟨g, rfl, hg⟩ := hc.nums (Or.inr (Or.inr rfl))
    have key : ∃ y : Int32, x = .int y ∧ vp_nar .boolean y = y := by
      rcases rx_bit_cv hI hxu with rfl | rfl
      · exact ⟨0, rfl, by decide +kernel⟩
      · exact ⟨1, rfl, by decide +kernel⟩
    obtain ⟨y, rfl, hnar⟩ := key
    refine ⟨_, rx_nums_set hc.1 (Or.inr (Or.inr rfl)) hg hxu, fun k => ?_⟩
    refine va_zast hx hb hK hP hD hS q 3 hw rfl (vp_in_nI hi hn) hd ?_
    rw [nI_clamp (Nat.lt_trans hi hn), hnar]
    exact k
theorem rx_s_aast (hx : p.tables.exec = Jvm.exec) (hb : c.code = cc) (hK : va_K D vwCl (rx_tys cy) s) (hd : decode cc pc = .ok (.aastore, 1))
    (h : rx_h_aast K N pc na nb lv st hp iv cn sn = some out) (hG : ∀ σ ∈ out, rx_G p l e R s m args below meth c Q cy D b A H0 ad0 en0 nL σ) : rx_G p l e R s m args below meth c Q cy D b A H0 ad0 en0 nL (pc, lv, st, hp, iv, cn, sn) := by
  refine rx_s_ast ?_ h hG
  intro ad en t n i a q u f ee ws H locs ls r x hok h9 h3 hc hw hP hD hS hi hn hxu
  obtain ⟨ht, hI⟩ := rx_and2.mp hok
  have ht : t = 16 := rx_beq.mp ht
  subst ht
  obtain ⟨g, rfl, hg⟩ := hc.refs rfl
  unfold rx_obj at hI
  obtain ⟨j1, hI⟩ := rx_and2.mp hI
  obtain ⟨j2, hI⟩ := rx_and2.mp hI
  cases hgo : rx_hg hp (Nat.sub (rx_pl u) 2) with
  | none => rw [hgo] at hI; cases hI
  | some cl =>
    obtain ⟨t2, n2, f2⟩ := cl
    rw [hgo] at hI
    have ht2 : t2 = 7 := rx_beq.mp hI
    subst ht2
    obtain ⟨a2, e2, rfl, ha2, hw2, hc2⟩ := rx_ref_at h3 (rx_and2.mpr ⟨j1, j2⟩) hxu hgo
    obtain ⟨fs, rfl, hfs⟩ := hc2.obj (show 7 < 12 by decide)
    refine ⟨.inl (cy 16, n, .inr (.inr (.inr (.inr (va_up g i (some a2)))))), ?_, fun k => ?_⟩
    · refine ⟨by show (f.set i u).length = n; rw [List.length_set]; exact hc.1, Or.inr (Or.inr (Or.inr ⟨rfl, _, rfl, fun j v hj => ?_⟩))⟩
      replace hj : (f.set i u)[j]? = some v := hj
      by_cases ee : j = i
      · subst ee
        have hlt := (List.getElem?_eq_some_iff.mp hj).1
        rw [List.length_set] at hlt
        rw [List.getElem?_set_self hlt] at hj
        cases hj
        rw [va_up_self]
        exact hxu
      · rw [List.getElem?_set_ne (Ne.symm ee)] at hj
        rw [va_up_ne _ _ ee]
        exact hg j v hj
    · refine va_astq hx hb hK hP hD hS q 4 _ 7 (r := (RX7, TX7, 9)) hw rfl hw2 rfl (vp_in_nI hi hn) hd ?_
      rw [nI_clamp (Nat.lt_trans hi hn)]
      exact k
theorem rx_s_lald (hx : p.tables.exec = Jvm.exec) (hb : c.code = cc) (hSc : rx_Sc N b A H0 en0 s) (hK : va_K D vwCl (rx_tys cy) s) (hd : decode cc pc = .ok (.laload, 1))
    (h : rx_h_ald (fun t => Nat.beq t 14) K N pc na nb lv st hp iv cn sn = some out) (hG : ∀ σ ∈ out, rx_G p l e R s m args below meth c Q cy D b A H0 ad0 en0 nL σ) : rx_G p l e R s m args below meth c Q cy D b A H0 ad0 en0 nL (pc, lv, st, hp, iv, cn, sn) := by
  refine rx_s_ald hx hb hSc (fun z => by cases z) ?_ h hG
  intro ad en t n i a q f ee ws H locs ls r v ht hc hw hP hi hn hf
  have ht : t = 14 := rx_beq.mp ht
  subst ht
  obtain ⟨g, rfl, hg⟩ := hc.lngs rfl
  refine ⟨_, hg i v hf, fun k => ?_⟩
  refine va_lald hx hb hK hP q 2 hw rfl (vp_in_nI hi hn) hd ?_
  rw [nI_clamp (Nat.lt_trans hi hn)]
  exact k
theorem rx_s_last (hx : p.tables.exec = Jvm.exec) (hb : c.code = cc) (hK : va_K D vwCl (rx_tys cy) s) (hd : decode cc pc = .ok (.lastore, 1))
    (h : rx_h_last K N pc na nb lv st hp iv cn sn = some out) (hG : ∀ σ ∈ out, rx_G p l e R s m args below meth c Q cy D b A H0 ad0 en0 nL σ) : rx_G p l e R s m args below meth c Q cy D b A H0 ad0 en0 nL (pc, lv, st, hp, iv, cn, sn) := by
  refine rx_s_ast ?_ h hG
  intro ad en t n i a q u f ee ws H locs ls r x hok h9 h3 hc hw hP hD hS hi hn hxu
  obtain ⟨ht, hI⟩ := rx_and2.mp hok
  have ht : t = 14 := rx_beq.mp ht
  subst ht
  obtain ⟨g, rfl, hg⟩ := hc.lngs rfl
  have hy := rx_isJ_cv hI hxu
  subst hy
  refine ⟨.inl (cy 14, n, .inr (.inl (vp_updL g i (Int64.ofNat (u / 4))))), ⟨by show (f.set i u).length = n; rw [List.length_set]; exact hc.1, Or.inr (Or.inr (Or.inl ⟨rfl, _, rfl, fun j v hj => ?_⟩))⟩, fun k => ?_⟩
  · replace hj : (f.set i u)[j]? = some v := hj
    by_cases e : j = i
    · subst e
      have hlt := (List.getElem?_eq_some_iff.mp hj).1
      rw [List.length_set] at hlt
      rw [List.getElem?_set_self hlt] at hj
      cases hj
      rw [pk_uLs]
      exact hxu
    · rw [List.getElem?_set_ne (Ne.symm e)] at hj
      rw [pk_uLn e]
      exact hg j v hj
  · refine va_last hx hb hK hP hD hS q 2 hw rfl (vp_in_nI hi hn) hd ?_
    rw [nI_clamp (Nat.lt_trans hi hn)]
    exact k
end RXS5
