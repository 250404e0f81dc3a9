/-- what the tables say of a class of which an object is made -/
noncomputable def rx_SN (K : rx_K) (own : String) (idx na : Nat) : Prop := ∃ (C : String) (T : u_T) (Nf : Nat) (ty0 : Nat → FieldType) (fs : List Value) (l : List Nat), vwCl[na]? = some (C, T, Nf) ∧ na < 12 ∧ rx_nth K.1 na = some l ∧ l.length = Nf ∧ (∀ b ad en, l.map (rx_cv b ad en) = fs.map some) ∧ (∀ j, j < Nf → defaultValue (ty0 j) = vp_V fs j) ∧
  (∀ k, k < Nf → parseFieldDescriptor (T k).2.2.1 = some (ty0 k)) ∧ (∀ w ∈ u_ws C T Nf, w ∈ lw_G) ∧ Cond.classLink own idx C ∈ lw_G ∧ Cond.instantiable C Nf ∈ lw_G ∧ Cond.initialized C ∈ lw_G
section RXS6
variable {p : Program} {l : Launch} {e : Env} {R : Room} {s : State} {m : MethodId} {args : Array Value} {below : List Frame} {meth : Method} {c : Code} {Q : State → Prop} {cc : ByteArray}
variable {cy : Nat → ClassId} {D : va_G} {b : Nat → Nat} {A : Nat → Prop} {H0 : Heap} {ad0 : List Nat} {en0 : List Int32} {nL : Nat}
variable {K : rx_K} {N : rx_N} {pc na nb cn sn : Nat} {lv : rx_L} {st : List Nat} {hp : rx_H} {iv : rx_I} {out : List rx_S} {own : String}
/-- a cell is made: behind it -/
theorem rx_made {n : Nat} {st' : List Nat} {x : rx_C} (h : rx_new N n lv st' hp iv cn sn x = some out) (hG : ∀ σ ∈ out, rx_G p l e R s m args below meth c Q cy D b A H0 ad0 en0 nL σ) (hR : rx_rc N ≤ R.cells ∧ rx_rs N ≤ R.slots) : (cn + 1 ≤ R.cells ∧ sn + x.2.1 ≤ R.slots) ∧
    ∀ {ad : List Nat} {en : List Int32} {ls : Array Slot} {r : List Value} {H1 : Heap} {locs : List Loc} {ws : va_W} {q : Nat} {ee : va_E}, ad0 <+: ad → en0 <+: en → rx_RW cy b ad en hp ws → rx_RC cy b ad en x ee → va_P D vwCl (ws ++ [(q, ee)]) H1 → va_D A (ws ++ [(q, ee)]) → va_S A H0 H1 locs → rx_RL b ad en nL lv ls → st'.map (rx_cv b ad en) = r.map some → rx_RI iv en → W p l e R s m args below meth c H1 locs (cn + 1) (sn + x.2.1) Q (F0 m n ls (.ref q :: r)) := by
  obtain ⟨hc, h⟩ := rx_cond h
  cases h
  obtain ⟨c1, hc⟩ := rx_and2.mp hc
  obtain ⟨c2, c3⟩ := rx_and2.mp hc
  have c1 : hp.1 < 256 := rx_blt.mp c1
  refine ⟨⟨Nat.le_trans (rx_ble.mp c2) hR.1, Nat.le_trans (rx_ble.mp c3) hR.2⟩, ?_⟩
  intro ad en ls r H1 locs ws q ee h1 h2 h3 hcl p1 p2 p3 h7 h8 h9
  have hm : ad <+: ad ++ [q] := List.prefix_append _ _
  have hq : (ad ++ [q])[hp.1]? = some q := by rw [← h3.2.1]; simp
  exact hG _ List.mem_cons_self (ad ++ [q]) en ls (.ref q :: r) H1 locs (ws ++ [(q, ee)]) ⟨rx_pre1 h1 q, h2, h3.push c1 hcl, p1, p2, p3, h7.mono hm (List.prefix_refl _), rx_st_push (rx_ref_cv c1 hq) (rx_map_mono hm (List.prefix_refl _) h8), h9⟩
theorem rx_s_new {idx : Nat} (hx : p.tables.exec = Jvm.exec) (hb : c.code = cc) (hts : ∀ w ∈ lw_G, w.before args s = true) (hown : s.vm.findClass own = some m.cls) (hK : va_K D vwCl (rx_tys cy) s) (hA : ∀ q, H0.size ≤ q → A q) (hR : rx_rc N ≤ R.cells ∧ rx_rs N ≤ R.slots) (hd : decode cc pc = .ok (.new idx, 3)) (hF : rx_SN K own idx na)
    (h : rx_h_new K N pc na nb lv st hp iv cn sn = some out) (hG : ∀ σ ∈ out, rx_G p l e R s m args below meth c Q cy D b A H0 ad0 en0 nL σ) : rx_G p l e R s m args below meth c Q cy D b A H0 ad0 en0 nL (pc, lv, st, hp, iv, cn, sn) := by
  obtain ⟨C, T, Nf, ty0, fs, l0, q1, q2, q3, q4, q5, q6, q7, q8, q9, q10, q11⟩ := hF
  unfold rx_h_new at h
  rw [q3] at h
  obtain ⟨⟨r1, r2⟩, k⟩ := rx_made h hG hR
  intro ad en ls stA H locs ws hRl
  obtain ⟨h1, h2, h3, h4, h5, h6, h7, h8, h9⟩ := hRl
  have hl : rx_len l0 = Nf := by rw [rx_len_eq]; exact q4
  have hRC : rx_RC cy b ad en (na, rx_len l0, l0) (.inr (na, fs)) := ⟨by show l0.length = rx_len l0; rw [rx_len_eq], Or.inl ⟨q2, fs, rfl, q5 b ad en⟩⟩
  refine va_new hx hb hts q8 ty0 q7 hown (hts _ q9) (hts _ q10) (hts _ q11) hK h4 h5 h6 hA q1 q6 r1 (by rw [← hl]; exact r2) hd (fun q H1 p1 p2 p3 => ?_)
  have := k h1 h2 h3 hRC p1 p2 p3 h7 h8 h9
  rw [← hl]
  exact this
theorem rx_rep {ad : List Nat} {en : List Int32} {n v j w : Nat} (h : (List.replicate n v)[j]? = some w) : w = v := by
  rw [List.getElem?_replicate] at h
  by_cases hj : j < n
  · rw [if_pos hj] at h; exact (Option.some.inj h).symm
  · rw [if_neg hj] at h; cases h
theorem rx_cyE {k : Nat} {ty : FieldType} {cA : ClassId} (hK : va_K D vwCl (rx_tys cy) s) {i : Nat} (hi : (rx_tys cy)[i]? = some (cy k, ty)) (hno : ∀ C, ty ≠ .object C) (hK2 : va_K D vwCl (rx_tys cy ++ [(cA, ty)]) s) : cA = cy k := by
  have h1 := (hK.2 i _ hi).2
  have h2 := (hK2.2 5 (cA, ty) rfl).2
  cases ty with
  | object C => exact absurd rfl (hno C)
  | _ => exact Option.some.inj (h2.symm.trans h1)
theorem rx_s_newa {t : ArrayType} (hx : p.tables.exec = Jvm.exec) (hb : c.code = cc) (hts : ∀ w ∈ lw_G, w.before args s = true) (hK : va_K D vwCl (rx_tys cy) s) (hA : ∀ q, H0.size ≤ q → A q) (hR : rx_rc N ≤ R.cells ∧ rx_rs N ≤ R.slots) (hd : decode cc pc = .ok (.newarray t, 2)) (hF : Cond.arrayClass (newarray.typeOf t) ∈ lw_G)
    (h : rx_h_newa t K N pc na nb lv st hp iv cn sn = some out) (hG : ∀ σ ∈ out, rx_G p l e R s m args below meth c Q cy D b A H0 ad0 en0 nL σ) : rx_G p l e R s m args below meth c Q cy D b A H0 ad0 en0 nL (pc, lv, st, hp, iv, cn, sn) := by
  match st, h with
  | [], h => cases h
  | v :: st', h =>
    unfold rx_h_newa at h
    replace h : (match rx_nk t with
      | some (k, d) => bif Nat.beq (rx_tk v) 0 && Nat.ble (rx_pl v) 10000 then rx_new N (Nat.add pc 2) lv st' hp iv cn sn (k, rx_pl v, List.replicate (rx_pl v) d) else none
      | none => none) = some out := h
    have fin : ∀ {k d : Nat}, (bif Nat.beq (rx_tk v) 0 && Nat.ble (rx_pl v) 10000 then rx_new N (Nat.add pc 2) lv st' hp iv cn sn (k, rx_pl v, List.replicate (rx_pl v) d) else none) = some out → v % 4 = 0 ∧ v / 4 ≤ 10000 ∧ rx_new N (Nat.add pc 2) lv st' hp iv cn sn (k, rx_pl v, List.replicate (rx_pl v) d) = some out := by
      intro k d hh
      obtain ⟨hc, hh⟩ := rx_cond hh
      obtain ⟨c1, c2⟩ := rx_and2.mp hc
      exact ⟨rx_beq.mp c1, rx_ble.mp c2, hh⟩
    have hneg : ∀ n : Nat, n ≤ 10000 → ¬ nI n < 0 ∧ (nI n).toNatClampNeg = n := fun n hn => ⟨nI_pos (by omega), nI_clamp (by omega)⟩
    cases t with
    | int =>
      obtain ⟨c1, c2, h⟩ := fin h
      obtain ⟨⟨r1, r2⟩, k⟩ := rx_made h hG hR
      intro ad en ls stA H locs ws hRl
      obtain ⟨h1, h2, h3, h4, h5, h6, h7, h8, h9⟩ := hRl
      obtain ⟨x, r, rfl, hxv, h8n⟩ := rx_st_cons h8
      cases (rx_cv0 (b := b) (ad := ad) (en := en) c1).symm.trans hxv
      refine va_newa (atype := .int) (ty := .int) (a0 := (v / 4, .inl (fun _ => 0))) hx hb (hts _ hF) rfl hK h4 h5 h6 hA (fun _ => rfl) (hneg _ c2).1 (hneg _ c2).2 (by show v / 4 * 4 ≤ _; omega) r1 r2 hd (fun q cA H1 hK2 p1 p2 p3 => ?_)
      have hcA : cA = cy 13 := rx_cyE hK (i := 1) rfl (fun C z => by cases z) hK2
      subst hcA
      exact k h1 h2 h3 ⟨List.length_replicate, Or.inr (Or.inl ⟨Or.inr (Or.inl rfl), _, rfl, fun j w hj => by rw [rx_rep (ad := ad) (en := en) hj]; exact rx_int_cv b ad en 0⟩)⟩ p1 p2 p3 h7 h8n h9
    | byte =>
      obtain ⟨c1, c2, h⟩ := fin h
      obtain ⟨⟨r1, r2⟩, k⟩ := rx_made h hG hR
      intro ad en ls stA H locs ws hRl
      obtain ⟨h1, h2, h3, h4, h5, h6, h7, h8, h9⟩ := hRl
      obtain ⟨x, r, rfl, hxv, h8n⟩ := rx_st_cons h8
      cases (rx_cv0 (b := b) (ad := ad) (en := en) c1).symm.trans hxv
      refine va_newa (atype := .byte) (ty := .byte) (a0 := (v / 4, .inl (fun _ => 0))) hx hb (hts _ hF) rfl hK h4 h5 h6 hA (fun _ => rfl) (hneg _ c2).1 (hneg _ c2).2 (by show v / 4 * 1 ≤ _; omega) r1 r2 hd (fun q cA H1 hK2 p1 p2 p3 => ?_)
      have hcA : cA = cy 12 := rx_cyE hK (i := 0) rfl (fun C z => by cases z) hK2
      subst hcA
      exact k h1 h2 h3 ⟨List.length_replicate, Or.inr (Or.inl ⟨Or.inl rfl, _, rfl, fun j w hj => by rw [rx_rep (ad := ad) (en := en) hj]; exact rx_int_cv b ad en 0⟩)⟩ p1 p2 p3 h7 h8n h9
    | boolean =>
      obtain ⟨c1, c2, h⟩ := fin h
      obtain ⟨⟨r1, r2⟩, k⟩ := rx_made h hG hR
      intro ad en ls stA H locs ws hRl
      obtain ⟨h1, h2, h3, h4, h5, h6, h7, h8, h9⟩ := hRl
      obtain ⟨x, r, rfl, hxv, h8n⟩ := rx_st_cons h8
      cases (rx_cv0 (b := b) (ad := ad) (en := en) c1).symm.trans hxv
      refine va_newa (atype := .boolean) (ty := .boolean) (a0 := (v / 4, .inl (fun _ => 0))) hx hb (hts _ hF) rfl hK h4 h5 h6 hA (fun _ => rfl) (hneg _ c2).1 (hneg _ c2).2 (by show v / 4 * 1 ≤ _; omega) r1 r2 hd (fun q cA H1 hK2 p1 p2 p3 => ?_)
      have hcA : cA = cy 15 := rx_cyE hK (i := 3) rfl (fun C z => by cases z) hK2
      subst hcA
      exact k h1 h2 h3 ⟨List.length_replicate, Or.inr (Or.inl ⟨Or.inr (Or.inr rfl), _, rfl, fun j w hj => by rw [rx_rep (ad := ad) (en := en) hj]; exact rx_int_cv b ad en 0⟩)⟩ p1 p2 p3 h7 h8n h9
    | long =>
      obtain ⟨c1, c2, h⟩ := fin h
      obtain ⟨⟨r1, r2⟩, k⟩ := rx_made h hG hR
      intro ad en ls stA H locs ws hRl
      obtain ⟨h1, h2, h3, h4, h5, h6, h7, h8, h9⟩ := hRl
      obtain ⟨x, r, rfl, hxv, h8n⟩ := rx_st_cons h8
      cases (rx_cv0 (b := b) (ad := ad) (en := en) c1).symm.trans hxv
      refine va_newa (atype := .long) (ty := .long) (a0 := (v / 4, .inr (.inl (fun _ => 0)))) hx hb (hts _ hF) rfl hK h4 h5 h6 hA (fun _ => rfl) (hneg _ c2).1 (hneg _ c2).2 (by show v / 4 * 8 ≤ _; omega) r1 r2 hd (fun q cA H1 hK2 p1 p2 p3 => ?_)
      have hcA : cA = cy 14 := rx_cyE hK (i := 2) rfl (fun C z => by cases z) hK2
      subst hcA
      exact k h1 h2 h3 ⟨List.length_replicate, Or.inr (Or.inr (Or.inl ⟨rfl, _, rfl, fun j w hj => by rw [rx_rep (ad := ad) (en := en) hj]; exact rx_lng_cv b ad en 0⟩))⟩ p1 p2 p3 h7 h8n h9
    | _ => cases h
theorem rx_s_anew {idx : Nat} (hx : p.tables.exec = Jvm.exec) (hb : c.code = cc) (hts : ∀ w ∈ lw_G, w.before args s = true) (hown : s.vm.findClass own = some m.cls) (hK : va_K D vwCl (rx_tys cy) s) (hAO : va_AO "TurnNet$State" s) (hA : ∀ q, H0.size ≤ q → A q) (hR : rx_rc N ≤ R.cells ∧ rx_rs N ≤ R.slots) (hd : decode cc pc = .ok (.anewarray idx, 3)) (hF : Cond.classLink own idx "TurnNet$State" ∈ lw_G)
    (h : rx_h_anew K N pc na nb lv st hp iv cn sn = some out) (hG : ∀ σ ∈ out, rx_G p l e R s m args below meth c Q cy D b A H0 ad0 en0 nL σ) : rx_G p l e R s m args below meth c Q cy D b A H0 ad0 en0 nL (pc, lv, st, hp, iv, cn, sn) := by
  match st, h with
  | [], h => cases h
  | v :: st', h =>
    obtain ⟨hc, h⟩ := rx_cond h
    obtain ⟨c1, c2⟩ := rx_and2.mp hc
    have c1 : v % 4 = 0 := rx_beq.mp c1
    have c2 : v / 4 ≤ 10000 := rx_ble.mp c2
    obtain ⟨⟨r1, r2⟩, k⟩ := rx_made h hG hR
    intro ad en ls stA H locs ws hRl
    obtain ⟨h1, h2, h3, h4, h5, h6, h7, h8, h9⟩ := hRl
    obtain ⟨x, r, rfl, hxv, h8n⟩ := rx_st_cons h8
    cases (rx_cv0 (b := b) (ad := ad) (en := en) c1).symm.trans hxv
    refine va_newq hx hb hown (hts _ hF) hAO hK h4 h5 h6 hA (show ¬ nI (v / 4) < 0 from nI_pos (by omega)) (show (nI (v / 4)).toNatClampNeg = v / 4 from nI_clamp (by omega)) (by omega) r1 r2 hd (fun q cA H1 hK2 p1 p2 p3 => ?_)
    have hcA : cA = cy 16 := by
      obtain ⟨k1, m1, -, -, -, e1⟩ := (hK.2 4 (cy 16, .object "TurnNet$State") rfl).2
      obtain ⟨k2, m2, -, -, -, e2⟩ := (hK2.2 5 (cA, .object "TurnNet$State") rfl).2
      exact Option.some.inj (e2.symm.trans e1)
    subst hcA
    exact k h1 h2 h3 ⟨List.length_replicate, Or.inr (Or.inr (Or.inr ⟨rfl, _, rfl, fun j w hj => by rw [rx_rep (ad := ad) (en := en) hj]; rfl⟩))⟩ p1 p2 p3 h7 h8n h9
theorem rx_lit (a : Nat) : Nat.add a 2147483648 = a + 2147483648 := rfl
theorem rx_s_tsw1 {d : Int} {l0 h0 LB HB x y v : Nat} {st' : List Nat} {offs : Array Int} {len : Nat} (hLB : LB = l0 + 2147483648) (hHB : HB = h0 + 2147483648) (hio : rx_io iv v = some (x, y)) (hx : p.tables.exec = Jvm.exec) (hb : c.code = cc) (hd : decode cc pc = .ok (.tableswitch d (Int.ofNat l0) (Int.ofNat h0) offs, len)) (ht : (pc : Int) + d = (na : Int))
    (h : rx_tsw1 LB HB offs pc na v x y lv st' hp iv cn sn = some out) (hG : ∀ σ ∈ out, rx_G p l e R s m args below meth c Q cy D b A H0 ad0 en0 nL σ) : rx_G p l e R s m args below meth c Q cy D b A H0 ad0 en0 nL (pc, lv, v :: st', hp, iv, cn, sn) := by
  unfold rx_tsw1 at h
  cases hc : (Nat.blt y LB || Nat.blt HB x) with
  | true =>
    rw [hc, cond_true] at h
    cases h
    intro ad en ls stA H locs ws hRl
    obtain ⟨h1, h2, h3, h4, h5, h6, h7, h8, h9⟩ := hRl
    obtain ⟨xa, r, rfl, hxv, h8n⟩ := rx_st_cons h8
    obtain ⟨n, en1, e1, e2⟩ := rx_io_cv (b := b) (ad := ad) h9 hio
    cases en1.symm.trans hxv
    refine lv_tableOut hx hb hd ?_ ht (hG _ List.mem_cons_self ad en ls r H locs ws ⟨h1, h2, h3, h4, h5, h6, h7, h8n, h9⟩)
    have hb1 := n.le_toInt
    unfold rx_bias at e1 e2
    rcases rx_or2.mp hc with q | q
    · have q := rx_blt.mp q
      exact Or.inl (by rw [Int.ofNat_eq_natCast]; omega)
    · have q := rx_blt.mp q
      exact Or.inr (by rw [Int.ofNat_eq_natCast]; omega)
  | false =>
    rw [hc, cond_false] at h
    cases hxy : Nat.beq x y with
    | false => rw [hxy, cond_false] at h; exact rx_s_two rfl h hG
    | true =>
      rw [hxy, cond_true] at h
      have hxy : x = y := rx_beq.mp hxy
      have n1 : ¬ y < LB := fun z => by rw [rx_blt.mpr z] at hc; cases hc
      have n2 : ¬ HB < x := fun z => by rw [rx_blt.mpr z, Bool.or_true] at hc; cases hc
      cases ho : offs[Nat.sub x LB]? with
      | none => rw [ho] at h; cases h
      | some o =>
        rw [ho] at h
        replace h : (match (pc : Int) + o with
          | .ofNat t => some [(t, lv, st', hp, iv, cn, sn)]
          | _ => none) = some out := h
        cases hpo : (pc : Int) + o with
        | negSucc z => rw [hpo] at h; cases h
        | ofNat t =>
          rw [hpo] at h
          cases h
          intro ad en ls stA H locs ws hRl
          obtain ⟨h1, h2, h3, h4, h5, h6, h7, h8, h9⟩ := hRl
          obtain ⟨xa, r, rfl, hxv, h8n⟩ := rx_st_cons h8
          obtain ⟨n, en1, e1, e2⟩ := rx_io_cv (b := b) (ad := ad) h9 hio
          cases en1.symm.trans hxv
          have hb1 := n.le_toInt
          unfold rx_bias at e1 e2
          have hix : (n.toInt - Int.ofNat l0).toNat = x - LB := by rw [Int.ofNat_eq_natCast]; omega
          refine lv_tableIn hx hb hd (by rw [Int.ofNat_eq_natCast]; omega) (by rw [Int.ofNat_eq_natCast]; omega) ?_ hpo (hG _ List.mem_cons_self ad en ls r H locs ws ⟨h1, h2, h3, h4, h5, h6, h7, h8n, h9⟩)
          rw [hix]
          exact ho
theorem rx_s_tsw {d lo hi : Int} {offs : Array Int} {len : Nat} (hx : p.tables.exec = Jvm.exec) (hb : c.code = cc) (hd : decode cc pc = .ok (.tableswitch d lo hi offs, len)) (ht : (pc : Int) + d = (na : Int))
    (h : rx_h_tsw lo hi offs K N pc na nb lv st hp iv cn sn = some out) (hG : ∀ σ ∈ out, rx_G p l e R s m args below meth c Q cy D b A H0 ad0 en0 nL σ) : rx_G p l e R s m args below meth c Q cy D b A H0 ad0 en0 nL (pc, lv, st, hp, iv, cn, sn) := by
  match st, h with
  | [], h => cases h
  | v :: st', h =>
    replace h : rx_tsw2 (rx_io iv v) lo hi offs pc na v lv st' hp iv cn sn = some out := h
    cases hio : rx_io iv v with
    | none => rw [hio] at h; cases h
    | some w =>
      obtain ⟨x, y⟩ := w
      rw [hio] at h
      cases lo with
      | negSucc z => cases h
      | ofNat l0 =>
        cases hi with
        | negSucc z => cases h
        | ofNat h0 =>
          replace h : rx_tsw1 (Nat.add l0 2147483648) (Nat.add h0 2147483648) offs pc na v x y lv st' hp iv cn sn = some out := h
          exact rx_s_tsw1 (rx_lit l0) (rx_lit h0) hio hx hb hd ht h hG
/-- a copy -/
theorem rx_cat_eq {ad : List Nat} {en : List Int32} : ∀ {st : List Nat} {r : List Value}, st.map (rx_cv b ad en) = r.map some → (r.map fun v => v.category).sum = rx_cat st
  | [], [], _ => rfl
  | [], _ :: _, h => by cases h
  | _ :: _, [], h => by cases h
  | v :: st, x :: r, h => by
    obtain ⟨x', r', e, hx, h⟩ := rx_st_cons h
    cases e
    have ih := rx_cat_eq h
    show x.category + (r.map fun v => v.category).sum = (bif rx_isJ v then Nat.add (rx_cat st) 2 else Nat.succ (rx_cat st))
    rw [ih, rx_cat_cv hx]
    cases rx_isJ v with
    | true => show 2 + rx_cat st = rx_cat st + 2; omega
    | false => show 1 + rx_cat st = rx_cat st + 1; omega
theorem rx_s_cpy {idx : Nat} {σ : rx_S} (hx : p.tables.exec = Jvm.exec) (hb : c.code = cc) (hml : c.maxLocals = nL) (hown : s.vm.findClass own = some m.cls) (hK : va_K D vwCl (rx_tys cy) s) (hw1 : (Cond.methodLink own idx arraycopyName).before args s = true) (hw2 : (Cond.native arraycopyName).before args s = true) (hw3 : (Cond.static arraycopyName).before args s = true) (hw4 : (Cond.initialized "java/lang/System").before args s = true) (hfr : 1 ≤ R.frames) (hlo : 40 ≤ R.locals) (hd : decode cc pc = .ok (.invokestatic idx, 3))
    (h : rx_cpy pc lv st hp iv cn sn = some σ) (hG : rx_G p l e R s m args below meth c Q cy D b A H0 ad0 en0 nL σ) : rx_G p l e R s m args below meth c Q cy D b A H0 ad0 en0 nL (pc, lv, st, hp, iv, cn, sn) := by
  match st, h with
  | [], h => cases h
  | [_], h => cases h
  | [_, _], h => cases h
  | [_, _, _], h => cases h
  | [_, _, _, _], h => cases h
  | n :: dp :: d :: sp :: q :: st', h =>
    unfold rx_cpy at h
    dsimp only at h
    obtain ⟨hc, h⟩ := rx_cond h
    obtain ⟨c1, hc⟩ := rx_and2.mp hc
    obtain ⟨c2, hc⟩ := rx_and2.mp hc
    obtain ⟨c3, hc⟩ := rx_and2.mp hc
    obtain ⟨c4, hc⟩ := rx_and2.mp hc
    obtain ⟨c5, c6⟩ := rx_and2.mp hc
    cases hg1 : rx_hg hp (Nat.sub (rx_pl q) 2) with
    | none => rw [hg1] at h; cases h
    | some cl1 =>
      cases hg2 : rx_hg hp (Nat.sub (rx_pl d) 2) with
      | none => rw [hg1, hg2] at h; cases h
      | some cl2 =>
        obtain ⟨t, m1, f1⟩ := cl1
        obtain ⟨t2, m2, f2⟩ := cl2
        rw [hg1, hg2] at h
        dsimp only at h
        obtain ⟨hc2, hn⟩ := rx_cond h
        obtain ⟨d1, hc2⟩ := rx_and2.mp hc2
        obtain ⟨d2, hc2⟩ := rx_and2.mp hc2
        obtain ⟨d3, hc2⟩ := rx_and2.mp hc2
        obtain ⟨d4, hc2⟩ := rx_and2.mp hc2
        obtain ⟨d5, d6⟩ := rx_and2.mp hc2
        have d1 : t = 13 := rx_beq.mp d1
        have d2 : t2 = 13 := rx_beq.mp d2
        have d3 : n = rx_int m1 := rx_beq.mp d3
        have d4 : m1 = m2 := rx_beq.mp d4
        have d5 : m1 < 100000 := rx_blt.mp d5
        have d6 : rx_cat st' ≤ 8 := rx_ble.mp d6
        have c1 : dp = 0 := rx_beq.mp c1
        have c2 : sp = 0 := rx_beq.mp c2
        subst d1; subst d2; subst d3; subst d4; subst c1; subst c2
        cases hn
        intro ad en ls stA H locs ws hRl
        obtain ⟨h1, h2, h3, h4, h5, h6, h7, h8, h9⟩ := hRl
        obtain ⟨x1, r1, rfl, hx1, h8a⟩ := rx_st_cons h8
        obtain ⟨x2, r2, rfl, hx2, h8b⟩ := rx_st_cons h8a
        obtain ⟨x3, r3, rfl, hx3, h8c⟩ := rx_st_cons h8b
        obtain ⟨x4, r4, rfl, hx4, h8d⟩ := rx_st_cons h8c
        obtain ⟨x5, r, rfl, hx5, h8e⟩ := rx_st_cons h8d
        have e1 := Option.some.inj (hx1.symm.trans (rx_int_cv b ad en m1))
        have e2 := Option.some.inj (hx2.symm.trans (rx_int_cv b ad en 0))
        have e4 := Option.some.inj (hx4.symm.trans (rx_int_cv b ad en 0))
        subst e1; subst e2; subst e4
        obtain ⟨aq, eq, rfl, haq, hwq, hcq⟩ := rx_ref_at h3 (rx_and2.mpr ⟨c5, c6⟩) hx5 hg1
        obtain ⟨ad', ed, rfl, had, hwd, hcd⟩ := rx_ref_at h3 (rx_and2.mpr ⟨c3, c4⟩) hx3 hg2
        obtain ⟨gq, rfl, hgq⟩ := hcq.nums (Or.inr (Or.inl rfl))
        obtain ⟨gd, rfl, hgd⟩ := hcd.nums (Or.inr (Or.inl rfl))
        have k0 : (Int32.ofNat 0).toNatClampNeg = 0 := by decide
        have km : (Int32.ofNat m1).toNatClampNeg = m1 := nI_clamp (n := m1) (by omega)
        have hcl2 : rx_RC cy b ad en (13, m1, f1) (.inl (cy 13, m1, .inl (va_cpy gq gd 0 0 m1))) := by
          refine ⟨hcq.1, Or.inr (Or.inl ⟨Or.inr (Or.inl rfl), _, rfl, fun j v hj => ?_⟩)⟩
          have hlt : j < m1 := by have := (List.getElem?_eq_some_iff.mp hj).1; exact Nat.lt_of_lt_of_eq this hcq.1
          rw [sb_cpy0 hlt]
          exact hgq j v hj
        have hRW := h3.set (rx_hg_lt hg2) had hcl2
        refine va_copyi hx hb (by rw [hml]; exact h7.2.1.symm) hown hw1 hw2 hw3 hw4 hK h4 h5 h6 _ _ 1 1 hwq hwd rfl rfl rfl (by decide) (by decide) (nI_pos (n := m1) (by omega)) (by rw [k0, km]; exact Nat.le_of_eq (Nat.zero_add m1)) (by rw [k0, km]; exact Nat.le_of_eq (Nat.zero_add m1)) (fun _ _ => rfl) hfr ?_ hd (fun H1 locs1 p1 p2 p3 => ?_)
        · rw [rx_cat_eq h8e]
          have : nativeFrameWords "java/lang/System" "arraycopy" 5 = 7 := by decide +kernel
          rw [this]
          omega
        · rw [k0, km] at p1 p2
          exact hG ad en ls r H1 locs1 _ ⟨h1, h2, hRW, p1, p2, p3, h7, h8e, h9⟩
end RXS6
